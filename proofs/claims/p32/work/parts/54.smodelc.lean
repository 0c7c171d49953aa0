/-! that they answer: X7_both4, X7_either4, X7_atom3, X7_term3, X7_added3, X7_not3, X7_both3, X7_either3, X7_atom2, X7_term2, X7_added2 (by program) -/
noncomputable section
theorem sl_X7_both4_5   (h0 : dH) (I_h0 : InvQ h0)  (k : Int32 → dH → Option (Int32 × dH)) (Q : Int32 × dH → Prop) (hk : ∀ (v1 : Int32) (g : dH) (Ig : InvQ g) (e0 : g 0 3 = h0 0 3) (e1 : g 0 4 = h0 0 4) (e2 : g 0 13 = h0 0 13) (e3 : g 0 20 = h0 0 20) (e4 : g 0 21 = h0 0 21), (h0 0 24).toInt ≤ (g 0 24).toInt → Sf (k v1 g) Q)  : ∀ (n : Nat) (v1 : Int32) (h : dH) (I_h : InvQ h) (e0 : h 0 3 = h0 0 3) (e1 : h 0 4 = h0 0 4) (e2 : h 0 13 = h0 0 13) (e3 : h 0 20 = h0 0 20) (e4 : h 0 21 = h0 0 21), (h0 0 24).toInt ≤ (h 0 24).toInt → 160 - (h 0 24).toInt < (n : Int) → Sf (l_X7_both4_5  k n v1 h) Q
  | 0, v1, h, I_h, e0, e1, e2, e3, e4, hi, hm => by have := pq24 I_h; omega
  | n + 1, v1, h, I_h, e0, e1, e2, e3, e4, hi, hm => by
    rw [l_X7_both4_5]
    have pq_h : 0 ≤ (h 0 20).toInt ∧ (h 0 20).toInt ≤ 800 ∧ 0 ≤ (h 0 21).toInt ∧ (h 0 21).toInt ≤ 160 ∧ 0 ≤ (h 0 24).toInt ∧ (h 0 24).toInt ≤ (h 0 22).toInt ∧ (h 0 22).toInt ≤ (h 0 21).toInt ∧ ((h 0 23).toInt = 3 → (h 0 24).toInt < (h 0 22).toInt) := I_h.2
    have yx11 := congrArg Int32.toInt e0
    have yx12 := congrArg Int32.toInt e1
    have yx13 := congrArg Int32.toInt e2
    have yx14 := congrArg Int32.toInt e3
    have yx15 := congrArg Int32.toInt e4
    have tx16 : (97 : Int32).toInt = 97 := by decide
    have tx17 : (110 : Int32).toInt = 110 := by decide
    have tx18 : (100 : Int32).toInt = 100 := by decide
    have tx19 : (0 : Int32).toInt = 0 := by decide
    refine sf_oP (s_X7_isWord h I_h (97 : Int32) (110 : Int32) (100 : Int32) (0 : Int32) (0 : Int32) (0 : Int32) (0 : Int32) (0 : Int32)) (fun r3 pr3 => ?_)
    refine sf_ite (fun c4 => ?_) (fun c5 => ?_)
    · skip
      exact hk v1 h I_h e0 e1 e2 e3 e4 (by first | trivial | omega)
    · skip
      refine sf_oV (s_X7_next h I_h.1 (by omega)) (fun g6 pg6 => ?_)
      obtain ⟨I_g6, ex20, ex21, ex22, ex23, ex24, qg6⟩ := pg6
      try simp only at I_g6 ex20 ex21 ex22 ex23 ex24 qg6
      have yx25 := congrArg Int32.toInt ex20
      have yx26 := congrArg Int32.toInt ex21
      have yx27 := congrArg Int32.toInt ex22
      have yx28 := congrArg Int32.toInt ex23
      have yx29 := congrArg Int32.toInt ex24
      have pq_g6 : 0 ≤ (g6 0 20).toInt ∧ (g6 0 20).toInt ≤ 800 ∧ 0 ≤ (g6 0 21).toInt ∧ (g6 0 21).toInt ≤ 160 ∧ 0 ≤ (g6 0 24).toInt ∧ (g6 0 24).toInt ≤ (g6 0 22).toInt ∧ (g6 0 22).toInt ≤ (g6 0 21).toInt ∧ ((g6 0 23).toInt = 3 → (g6 0 24).toInt < (g6 0 22).toInt) := I_g6.2
      refine sf_oI (s_X7_not4 g6 I_g6 ) (fun r7 g8 pg8 => ?_)
      obtain ⟨I_g8, ex30, ex31, ex32, ex33, ex34, qg8⟩ := pg8
      try simp only at I_g8 ex30 ex31 ex32 ex33 ex34 qg8
      have yx35 := congrArg Int32.toInt ex30
      have yx36 := congrArg Int32.toInt ex31
      have yx37 := congrArg Int32.toInt ex32
      have yx38 := congrArg Int32.toInt ex33
      have yx39 := congrArg Int32.toInt ex34
      have pq_g8 : 0 ≤ (g8 0 20).toInt ∧ (g8 0 20).toInt ≤ 800 ∧ 0 ≤ (g8 0 21).toInt ∧ (g8 0 21).toInt ≤ 160 ∧ 0 ≤ (g8 0 24).toInt ∧ (g8 0 24).toInt ≤ (g8 0 22).toInt ∧ (g8 0 22).toInt ≤ (g8 0 21).toInt ∧ ((g8 0 23).toInt = 3 → (g8 0 24).toInt < (g8 0 22).toInt) := I_g8.2
      refine sf_ite (fun c9 => ?_) (fun c10 => ?_)
      · skip
        exact sl_X7_both4_5    h0 I_h0  k Q hk n (0 : Int32) g8 I_g8 (ex30.trans (ex20.trans e0)) (ex31.trans (ex21.trans e1)) (ex32.trans (ex22.trans e2)) (ex33.trans (ex23.trans e3)) (ex34.trans (ex24.trans e4)) (by first | trivial | omega) (by omega)
      · skip
        refine sf_ite (fun c11 => ?_) (fun c12 => ?_)
        · skip
          exact sl_X7_both4_5    h0 I_h0  k Q hk n (0 : Int32) g8 I_g8 (ex30.trans (ex20.trans e0)) (ex31.trans (ex21.trans e1)) (ex32.trans (ex22.trans e2)) (ex33.trans (ex23.trans e3)) (ex34.trans (ex24.trans e4)) (by first | trivial | omega) (by omega)
        · skip
          have tx40 : (1 : Int32).toInt = 1 := by decide
          exact sl_X7_both4_5    h0 I_h0  k Q hk n (1 : Int32) g8 I_g8 (ex30.trans (ex20.trans e0)) (ex31.trans (ex21.trans e1)) (ex32.trans (ex22.trans e2)) (ex33.trans (ex23.trans e3)) (ex34.trans (ex24.trans e4)) (by first | trivial | omega) (by omega)
theorem s_X7_both4 (h : dH) (I_h : InvQ h)   : Sf (f_X7_both4  h) (fun o => InvQ o.2 ∧ o.2 0 3 = h 0 3 ∧ o.2 0 4 = h 0 4 ∧ o.2 0 13 = h 0 13 ∧ o.2 0 20 = h 0 20 ∧ o.2 0 21 = h 0 21 ∧ (h 0 24).toInt ≤ (o.2 0 24).toInt) := by
  unfold f_X7_both4
  have pq_h : 0 ≤ (h 0 20).toInt ∧ (h 0 20).toInt ≤ 800 ∧ 0 ≤ (h 0 21).toInt ∧ (h 0 21).toInt ≤ 160 ∧ 0 ≤ (h 0 24).toInt ∧ (h 0 24).toInt ≤ (h 0 22).toInt ∧ (h 0 22).toInt ≤ (h 0 21).toInt ∧ ((h 0 23).toInt = 3 → (h 0 24).toInt < (h 0 22).toInt) := I_h.2
  refine sf_oI (s_X7_not4 h I_h ) (fun r1 g2 pg2 => ?_)
  obtain ⟨I_g2, ex1, ex2, ex3, ex4, ex5, qg2⟩ := pg2
  try simp only at I_g2 ex1 ex2 ex3 ex4 ex5 qg2
  have yx6 := congrArg Int32.toInt ex1
  have yx7 := congrArg Int32.toInt ex2
  have yx8 := congrArg Int32.toInt ex3
  have yx9 := congrArg Int32.toInt ex4
  have yx10 := congrArg Int32.toInt ex5
  have pq_g2 : 0 ≤ (g2 0 20).toInt ∧ (g2 0 20).toInt ≤ 800 ∧ 0 ≤ (g2 0 21).toInt ∧ (g2 0 21).toInt ≤ 160 ∧ 0 ≤ (g2 0 24).toInt ∧ (g2 0 24).toInt ≤ (g2 0 22).toInt ∧ (g2 0 22).toInt ≤ (g2 0 21).toInt ∧ ((g2 0 23).toInt = 3 → (g2 0 24).toInt < (g2 0 22).toInt) := I_g2.2
  have := pq24 I_g2
  refine sl_X7_both4_5   g2 I_g2  _ _ (fun v1_13 g15 I_g15 eg15_0 eg15_1 eg15_2 eg15_3 eg15_4 px41 => ?_)  fuel0 r1 g2 I_g2 rfl rfl rfl rfl rfl (by first | trivial | omega) (by have := fuel0_eq; omega)
  have yx42 := congrArg Int32.toInt eg15_0
  have yx43 := congrArg Int32.toInt eg15_1
  have yx44 := congrArg Int32.toInt eg15_2
  have yx45 := congrArg Int32.toInt eg15_3
  have yx46 := congrArg Int32.toInt eg15_4
  have pq_g15 : 0 ≤ (g15 0 20).toInt ∧ (g15 0 20).toInt ≤ 800 ∧ 0 ≤ (g15 0 21).toInt ∧ (g15 0 21).toInt ≤ 160 ∧ 0 ≤ (g15 0 24).toInt ∧ (g15 0 24).toInt ≤ (g15 0 22).toInt ∧ (g15 0 22).toInt ≤ (g15 0 21).toInt ∧ ((g15 0 23).toInt = 3 → (g15 0 24).toInt < (g15 0 22).toInt) := I_g15.2
  exact sf_some (⟨I_g15, (eg15_0.trans ex1), (eg15_1.trans ex2), (eg15_2.trans ex3), (eg15_3.trans ex4), (eg15_4.trans ex5), (show (h 0 24).toInt ≤ (g15 0 24).toInt by omega)⟩)
theorem sl_X7_either4_5   (h0 : dH) (I_h0 : InvQ h0)  (k : Int32 → dH → Option (Int32 × dH)) (Q : Int32 × dH → Prop) (hk : ∀ (v1 : Int32) (g : dH) (Ig : InvQ g) (e0 : g 0 3 = h0 0 3) (e1 : g 0 4 = h0 0 4) (e2 : g 0 13 = h0 0 13) (e3 : g 0 20 = h0 0 20) (e4 : g 0 21 = h0 0 21), (h0 0 24).toInt ≤ (g 0 24).toInt → Sf (k v1 g) Q)  : ∀ (n : Nat) (v1 : Int32) (h : dH) (I_h : InvQ h) (e0 : h 0 3 = h0 0 3) (e1 : h 0 4 = h0 0 4) (e2 : h 0 13 = h0 0 13) (e3 : h 0 20 = h0 0 20) (e4 : h 0 21 = h0 0 21), (h0 0 24).toInt ≤ (h 0 24).toInt → 160 - (h 0 24).toInt < (n : Int) → Sf (l_X7_either4_5  k n v1 h) Q
  | 0, v1, h, I_h, e0, e1, e2, e3, e4, hi, hm => by have := pq24 I_h; omega
  | n + 1, v1, h, I_h, e0, e1, e2, e3, e4, hi, hm => by
    rw [l_X7_either4_5]
    have pq_h : 0 ≤ (h 0 20).toInt ∧ (h 0 20).toInt ≤ 800 ∧ 0 ≤ (h 0 21).toInt ∧ (h 0 21).toInt ≤ 160 ∧ 0 ≤ (h 0 24).toInt ∧ (h 0 24).toInt ≤ (h 0 22).toInt ∧ (h 0 22).toInt ≤ (h 0 21).toInt ∧ ((h 0 23).toInt = 3 → (h 0 24).toInt < (h 0 22).toInt) := I_h.2
    have yx11 := congrArg Int32.toInt e0
    have yx12 := congrArg Int32.toInt e1
    have yx13 := congrArg Int32.toInt e2
    have yx14 := congrArg Int32.toInt e3
    have yx15 := congrArg Int32.toInt e4
    have tx16 : (111 : Int32).toInt = 111 := by decide
    have tx17 : (114 : Int32).toInt = 114 := by decide
    have tx18 : (0 : Int32).toInt = 0 := by decide
    refine sf_oP (s_X7_isWord h I_h (111 : Int32) (114 : Int32) (0 : Int32) (0 : Int32) (0 : Int32) (0 : Int32) (0 : Int32) (0 : Int32)) (fun r3 pr3 => ?_)
    refine sf_ite (fun c4 => ?_) (fun c5 => ?_)
    · skip
      exact hk v1 h I_h e0 e1 e2 e3 e4 (by first | trivial | omega)
    · skip
      refine sf_oV (s_X7_next h I_h.1 (by omega)) (fun g6 pg6 => ?_)
      obtain ⟨I_g6, ex19, ex20, ex21, ex22, ex23, qg6⟩ := pg6
      try simp only at I_g6 ex19 ex20 ex21 ex22 ex23 qg6
      have yx24 := congrArg Int32.toInt ex19
      have yx25 := congrArg Int32.toInt ex20
      have yx26 := congrArg Int32.toInt ex21
      have yx27 := congrArg Int32.toInt ex22
      have yx28 := congrArg Int32.toInt ex23
      have pq_g6 : 0 ≤ (g6 0 20).toInt ∧ (g6 0 20).toInt ≤ 800 ∧ 0 ≤ (g6 0 21).toInt ∧ (g6 0 21).toInt ≤ 160 ∧ 0 ≤ (g6 0 24).toInt ∧ (g6 0 24).toInt ≤ (g6 0 22).toInt ∧ (g6 0 22).toInt ≤ (g6 0 21).toInt ∧ ((g6 0 23).toInt = 3 → (g6 0 24).toInt < (g6 0 22).toInt) := I_g6.2
      refine sf_oI (s_X7_both4 g6 I_g6 ) (fun r7 g8 pg8 => ?_)
      obtain ⟨I_g8, ex29, ex30, ex31, ex32, ex33, qg8⟩ := pg8
      try simp only at I_g8 ex29 ex30 ex31 ex32 ex33 qg8
      have yx34 := congrArg Int32.toInt ex29
      have yx35 := congrArg Int32.toInt ex30
      have yx36 := congrArg Int32.toInt ex31
      have yx37 := congrArg Int32.toInt ex32
      have yx38 := congrArg Int32.toInt ex33
      have pq_g8 : 0 ≤ (g8 0 20).toInt ∧ (g8 0 20).toInt ≤ 800 ∧ 0 ≤ (g8 0 21).toInt ∧ (g8 0 21).toInt ≤ 160 ∧ 0 ≤ (g8 0 24).toInt ∧ (g8 0 24).toInt ≤ (g8 0 22).toInt ∧ (g8 0 22).toInt ≤ (g8 0 21).toInt ∧ ((g8 0 23).toInt = 3 → (g8 0 24).toInt < (g8 0 22).toInt) := I_g8.2
      refine sf_ite (fun c9 => ?_) (fun c10 => ?_)
      · skip
        refine sf_ite (fun c11 => ?_) (fun c12 => ?_)
        · skip
          exact sl_X7_either4_5    h0 I_h0  k Q hk n (0 : Int32) g8 I_g8 (ex29.trans (ex19.trans e0)) (ex30.trans (ex20.trans e1)) (ex31.trans (ex21.trans e2)) (ex32.trans (ex22.trans e3)) (ex33.trans (ex23.trans e4)) (by first | trivial | omega) (by omega)
        · skip
          have tx39 : (1 : Int32).toInt = 1 := by decide
          exact sl_X7_either4_5    h0 I_h0  k Q hk n (1 : Int32) g8 I_g8 (ex29.trans (ex19.trans e0)) (ex30.trans (ex20.trans e1)) (ex31.trans (ex21.trans e2)) (ex32.trans (ex22.trans e3)) (ex33.trans (ex23.trans e4)) (by first | trivial | omega) (by omega)
      · skip
        have tx40 : (1 : Int32).toInt = 1 := by decide
        exact sl_X7_either4_5    h0 I_h0  k Q hk n (1 : Int32) g8 I_g8 (ex29.trans (ex19.trans e0)) (ex30.trans (ex20.trans e1)) (ex31.trans (ex21.trans e2)) (ex32.trans (ex22.trans e3)) (ex33.trans (ex23.trans e4)) (by first | trivial | omega) (by omega)
theorem s_X7_either4 (h : dH) (I_h : InvQ h)   : Sf (f_X7_either4  h) (fun o => InvQ o.2 ∧ o.2 0 3 = h 0 3 ∧ o.2 0 4 = h 0 4 ∧ o.2 0 13 = h 0 13 ∧ o.2 0 20 = h 0 20 ∧ o.2 0 21 = h 0 21 ∧ (h 0 24).toInt ≤ (o.2 0 24).toInt) := by
  unfold f_X7_either4
  have pq_h : 0 ≤ (h 0 20).toInt ∧ (h 0 20).toInt ≤ 800 ∧ 0 ≤ (h 0 21).toInt ∧ (h 0 21).toInt ≤ 160 ∧ 0 ≤ (h 0 24).toInt ∧ (h 0 24).toInt ≤ (h 0 22).toInt ∧ (h 0 22).toInt ≤ (h 0 21).toInt ∧ ((h 0 23).toInt = 3 → (h 0 24).toInt < (h 0 22).toInt) := I_h.2
  refine sf_oI (s_X7_both4 h I_h ) (fun r1 g2 pg2 => ?_)
  obtain ⟨I_g2, ex1, ex2, ex3, ex4, ex5, qg2⟩ := pg2
  try simp only at I_g2 ex1 ex2 ex3 ex4 ex5 qg2
  have yx6 := congrArg Int32.toInt ex1
  have yx7 := congrArg Int32.toInt ex2
  have yx8 := congrArg Int32.toInt ex3
  have yx9 := congrArg Int32.toInt ex4
  have yx10 := congrArg Int32.toInt ex5
  have pq_g2 : 0 ≤ (g2 0 20).toInt ∧ (g2 0 20).toInt ≤ 800 ∧ 0 ≤ (g2 0 21).toInt ∧ (g2 0 21).toInt ≤ 160 ∧ 0 ≤ (g2 0 24).toInt ∧ (g2 0 24).toInt ≤ (g2 0 22).toInt ∧ (g2 0 22).toInt ≤ (g2 0 21).toInt ∧ ((g2 0 23).toInt = 3 → (g2 0 24).toInt < (g2 0 22).toInt) := I_g2.2
  have := pq24 I_g2
  refine sl_X7_either4_5   g2 I_g2  _ _ (fun v1_13 g15 I_g15 eg15_0 eg15_1 eg15_2 eg15_3 eg15_4 px41 => ?_)  fuel0 r1 g2 I_g2 rfl rfl rfl rfl rfl (by first | trivial | omega) (by have := fuel0_eq; omega)
  have yx42 := congrArg Int32.toInt eg15_0
  have yx43 := congrArg Int32.toInt eg15_1
  have yx44 := congrArg Int32.toInt eg15_2
  have yx45 := congrArg Int32.toInt eg15_3
  have yx46 := congrArg Int32.toInt eg15_4
  have pq_g15 : 0 ≤ (g15 0 20).toInt ∧ (g15 0 20).toInt ≤ 800 ∧ 0 ≤ (g15 0 21).toInt ∧ (g15 0 21).toInt ≤ 160 ∧ 0 ≤ (g15 0 24).toInt ∧ (g15 0 24).toInt ≤ (g15 0 22).toInt ∧ (g15 0 22).toInt ≤ (g15 0 21).toInt ∧ ((g15 0 23).toInt = 3 → (g15 0 24).toInt < (g15 0 22).toInt) := I_g15.2
  exact sf_some (⟨I_g15, (eg15_0.trans ex1), (eg15_1.trans ex2), (eg15_2.trans ex3), (eg15_3.trans ex4), (eg15_4.trans ex5), (show (h 0 24).toInt ≤ (g15 0 24).toInt by omega)⟩)
theorem s_X7_atom3 (h : dH) (I_h : InvQ h)   : Sf (f_X7_atom3  h) (fun o => InvQ o.2 ∧ o.2 0 3 = h 0 3 ∧ o.2 0 4 = h 0 4 ∧ o.2 0 13 = h 0 13 ∧ o.2 0 20 = h 0 20 ∧ o.2 0 21 = h 0 21 ∧ (h 0 24).toInt ≤ (o.2 0 24).toInt) := by
  unfold f_X7_atom3
  have pq_h : 0 ≤ (h 0 20).toInt ∧ (h 0 20).toInt ≤ 800 ∧ 0 ≤ (h 0 21).toInt ∧ (h 0 21).toInt ≤ 160 ∧ 0 ≤ (h 0 24).toInt ∧ (h 0 24).toInt ≤ (h 0 22).toInt ∧ (h 0 22).toInt ≤ (h 0 21).toInt ∧ ((h 0 23).toInt = 3 → (h 0 24).toInt < (h 0 22).toInt) := I_h.2
  have tx1 : (45 : Int32).toInt = 45 := by decide
  refine sf_oP (s_X7_isSign h I_h (45 : Int32)) (fun r1 pr1 => ?_)
  refine sf_ite (fun c2 => ?_) (fun c3 => ?_)
  · skip
    have tx2 : (40 : Int32).toInt = 40 := by decide
    refine sf_oP (s_X7_isSign h I_h (40 : Int32)) (fun r4 pr4 => ?_)
    refine sf_ite (fun c5 => ?_) (fun c6 => ?_)
    · skip
      refine sf_ite (fun c7 => ?_) (fun c8 => ?_)
      · skip
        refine sf_ite (fun c9 => ?_) (fun c10 => ?_)
        · skip
          refine sf_oV (s_X7_next h I_h.1 (by omega)) (fun g11 pg11 => ?_)
          obtain ⟨I_g11, ex3, ex4, ex5, ex6, ex7, qg11⟩ := pg11
          try simp only at I_g11 ex3 ex4 ex5 ex6 ex7 qg11
          have yx8 := congrArg Int32.toInt ex3
          have yx9 := congrArg Int32.toInt ex4
          have yx10 := congrArg Int32.toInt ex5
          have yx11 := congrArg Int32.toInt ex6
          have yx12 := congrArg Int32.toInt ex7
          have pq_g11 : 0 ≤ (g11 0 20).toInt ∧ (g11 0 20).toInt ≤ 800 ∧ 0 ≤ (g11 0 21).toInt ∧ (g11 0 21).toInt ≤ 160 ∧ 0 ≤ (g11 0 24).toInt ∧ (g11 0 24).toInt ≤ (g11 0 22).toInt ∧ (g11 0 22).toInt ≤ (g11 0 21).toInt ∧ ((g11 0 23).toInt = 3 → (g11 0 24).toInt < (g11 0 22).toInt) := I_g11.2
          have tx13 : (h 0 25).toInt64.toInt = (h 0 25).toInt := l_i2l
          exact sf_some (⟨I_g11, ex3, ex4, ex5, ex6, ex7, (show (h 0 24).toInt ≤ (g11 0 24).toInt by omega)⟩)
        · skip
          refine sf_ite (fun c12 => ?_) (fun c13 => ?_)
          · skip
            refine sf_ite (fun c14 => ?_) (fun c15 => ?_)
            · skip
              refine sf_oI (s_X7_name h I_h ) (fun r16 g17 pg17 => ?_)
              obtain ⟨I_g17, ex14, ex15, ex16, ex17, ex18, ex19, ex20, ex21, qg17⟩ := pg17
              try simp only at I_g17 ex14 ex15 ex16 ex17 ex18 ex19 ex20 ex21 qg17
              have yx22 := congrArg Int32.toInt ex14
              have yx23 := congrArg Int32.toInt ex15
              have yx24 := congrArg Int32.toInt ex16
              have yx25 := congrArg Int32.toInt ex17
              have yx26 := congrArg Int32.toInt ex18
              have yx27 := congrArg Int32.toInt ex19
              have yx28 := congrArg Int32.toInt ex20
              have yx29 := congrArg Int32.toInt ex21
              have pq_g17 : 0 ≤ (g17 0 20).toInt ∧ (g17 0 20).toInt ≤ 800 ∧ 0 ≤ (g17 0 21).toInt ∧ (g17 0 21).toInt ≤ 160 ∧ 0 ≤ (g17 0 24).toInt ∧ (g17 0 24).toInt ≤ (g17 0 22).toInt ∧ (g17 0 22).toInt ≤ (g17 0 21).toInt ∧ ((g17 0 23).toInt = 3 → (g17 0 24).toInt < (g17 0 22).toInt) := I_g17.2
              refine sf_ite (fun c18 => ?_) (fun c19 => ?_)
              · skip
                refine sf_oV (s_X7_next g17 I_g17.1 (by omega)) (fun g20 pg20 => ?_)
                obtain ⟨I_g20, ex30, ex31, ex32, ex33, ex34, qg20⟩ := pg20
                try simp only at I_g20 ex30 ex31 ex32 ex33 ex34 qg20
                have yx35 := congrArg Int32.toInt ex30
                have yx36 := congrArg Int32.toInt ex31
                have yx37 := congrArg Int32.toInt ex32
                have yx38 := congrArg Int32.toInt ex33
                have yx39 := congrArg Int32.toInt ex34
                have pq_g20 : 0 ≤ (g20 0 20).toInt ∧ (g20 0 20).toInt ≤ 800 ∧ 0 ≤ (g20 0 21).toInt ∧ (g20 0 21).toInt ≤ 160 ∧ 0 ≤ (g20 0 24).toInt ∧ (g20 0 24).toInt ≤ (g20 0 22).toInt ∧ (g20 0 22).toInt ≤ (g20 0 21).toInt ∧ ((g20 0 23).toInt = 3 → (g20 0 24).toInt < (g20 0 22).toInt) := I_g20.2
                exact sf_some (⟨I_g20, (ex30.trans ex14), (ex31.trans ex15), (ex32.trans ex16), (ex33.trans ex17), (ex34.trans ex18), (show (h 0 24).toInt ≤ (g20 0 24).toInt by omega)⟩)
              · skip
                exact sf_some (⟨I_g17, ex14, ex15, ex16, ex17, ex18, (show (h 0 24).toInt ≤ (g17 0 24).toInt by omega)⟩)
            · skip
              refine sf_oV (s_X7_fail h I_h ) (fun g21 pg21 => ?_)
              obtain ⟨I_g21, ex40, ex41, ex42, ex43, ex44, ex45, ex46, ex47, qg21⟩ := pg21
              try simp only at I_g21 ex40 ex41 ex42 ex43 ex44 ex45 ex46 ex47 qg21
              have yx48 := congrArg Int32.toInt ex40
              have yx49 := congrArg Int32.toInt ex41
              have yx50 := congrArg Int32.toInt ex42
              have yx51 := congrArg Int32.toInt ex43
              have yx52 := congrArg Int32.toInt ex44
              have yx53 := congrArg Int32.toInt ex45
              have yx54 := congrArg Int32.toInt ex46
              have yx55 := congrArg Int32.toInt ex47
              have pq_g21 : 0 ≤ (g21 0 20).toInt ∧ (g21 0 20).toInt ≤ 800 ∧ 0 ≤ (g21 0 21).toInt ∧ (g21 0 21).toInt ≤ 160 ∧ 0 ≤ (g21 0 24).toInt ∧ (g21 0 24).toInt ≤ (g21 0 22).toInt ∧ (g21 0 22).toInt ≤ (g21 0 21).toInt ∧ ((g21 0 23).toInt = 3 → (g21 0 24).toInt < (g21 0 22).toInt) := I_g21.2
              have tx56 : (0 : Int32).toInt = 0 := by decide
              exact sf_some (⟨I_g21, ex40, ex41, ex42, ex43, ex44, (show (h 0 24).toInt ≤ (g21 0 24).toInt by omega)⟩)
          · skip
            refine sf_oV (s_X7_fail h I_h ) (fun g22 pg22 => ?_)
            obtain ⟨I_g22, ex57, ex58, ex59, ex60, ex61, ex62, ex63, ex64, qg22⟩ := pg22
            try simp only at I_g22 ex57 ex58 ex59 ex60 ex61 ex62 ex63 ex64 qg22
            have yx65 := congrArg Int32.toInt ex57
            have yx66 := congrArg Int32.toInt ex58
            have yx67 := congrArg Int32.toInt ex59
            have yx68 := congrArg Int32.toInt ex60
            have yx69 := congrArg Int32.toInt ex61
            have yx70 := congrArg Int32.toInt ex62
            have yx71 := congrArg Int32.toInt ex63
            have yx72 := congrArg Int32.toInt ex64
            have pq_g22 : 0 ≤ (g22 0 20).toInt ∧ (g22 0 20).toInt ≤ 800 ∧ 0 ≤ (g22 0 21).toInt ∧ (g22 0 21).toInt ≤ 160 ∧ 0 ≤ (g22 0 24).toInt ∧ (g22 0 24).toInt ≤ (g22 0 22).toInt ∧ (g22 0 22).toInt ≤ (g22 0 21).toInt ∧ ((g22 0 23).toInt = 3 → (g22 0 24).toInt < (g22 0 22).toInt) := I_g22.2
            have tx73 : (0 : Int32).toInt = 0 := by decide
            exact sf_some (⟨I_g22, ex57, ex58, ex59, ex60, ex61, (show (h 0 24).toInt ≤ (g22 0 24).toInt by omega)⟩)
      · skip
        refine sf_ite (fun c23 => ?_) (fun c24 => ?_)
        · skip
          refine sf_ite (fun c25 => ?_) (fun c26 => ?_)
          · skip
            refine sf_oI (s_X7_name h I_h ) (fun r27 g28 pg28 => ?_)
            obtain ⟨I_g28, ex74, ex75, ex76, ex77, ex78, ex79, ex80, ex81, qg28⟩ := pg28
            try simp only at I_g28 ex74 ex75 ex76 ex77 ex78 ex79 ex80 ex81 qg28
            have yx82 := congrArg Int32.toInt ex74
            have yx83 := congrArg Int32.toInt ex75
            have yx84 := congrArg Int32.toInt ex76
            have yx85 := congrArg Int32.toInt ex77
            have yx86 := congrArg Int32.toInt ex78
            have yx87 := congrArg Int32.toInt ex79
            have yx88 := congrArg Int32.toInt ex80
            have yx89 := congrArg Int32.toInt ex81
            have pq_g28 : 0 ≤ (g28 0 20).toInt ∧ (g28 0 20).toInt ≤ 800 ∧ 0 ≤ (g28 0 21).toInt ∧ (g28 0 21).toInt ≤ 160 ∧ 0 ≤ (g28 0 24).toInt ∧ (g28 0 24).toInt ≤ (g28 0 22).toInt ∧ (g28 0 22).toInt ≤ (g28 0 21).toInt ∧ ((g28 0 23).toInt = 3 → (g28 0 24).toInt < (g28 0 22).toInt) := I_g28.2
            refine sf_ite (fun c29 => ?_) (fun c30 => ?_)
            · skip
              refine sf_oV (s_X7_next g28 I_g28.1 (by omega)) (fun g31 pg31 => ?_)
              obtain ⟨I_g31, ex90, ex91, ex92, ex93, ex94, qg31⟩ := pg31
              try simp only at I_g31 ex90 ex91 ex92 ex93 ex94 qg31
              have yx95 := congrArg Int32.toInt ex90
              have yx96 := congrArg Int32.toInt ex91
              have yx97 := congrArg Int32.toInt ex92
              have yx98 := congrArg Int32.toInt ex93
              have yx99 := congrArg Int32.toInt ex94
              have pq_g31 : 0 ≤ (g31 0 20).toInt ∧ (g31 0 20).toInt ≤ 800 ∧ 0 ≤ (g31 0 21).toInt ∧ (g31 0 21).toInt ≤ 160 ∧ 0 ≤ (g31 0 24).toInt ∧ (g31 0 24).toInt ≤ (g31 0 22).toInt ∧ (g31 0 22).toInt ≤ (g31 0 21).toInt ∧ ((g31 0 23).toInt = 3 → (g31 0 24).toInt < (g31 0 22).toInt) := I_g31.2
              exact sf_some (⟨I_g31, (ex90.trans ex74), (ex91.trans ex75), (ex92.trans ex76), (ex93.trans ex77), (ex94.trans ex78), (show (h 0 24).toInt ≤ (g31 0 24).toInt by omega)⟩)
            · skip
              exact sf_some (⟨I_g28, ex74, ex75, ex76, ex77, ex78, (show (h 0 24).toInt ≤ (g28 0 24).toInt by omega)⟩)
          · skip
            refine sf_oV (s_X7_fail h I_h ) (fun g32 pg32 => ?_)
            obtain ⟨I_g32, ex100, ex101, ex102, ex103, ex104, ex105, ex106, ex107, qg32⟩ := pg32
            try simp only at I_g32 ex100 ex101 ex102 ex103 ex104 ex105 ex106 ex107 qg32
            have yx108 := congrArg Int32.toInt ex100
            have yx109 := congrArg Int32.toInt ex101
            have yx110 := congrArg Int32.toInt ex102
            have yx111 := congrArg Int32.toInt ex103
            have yx112 := congrArg Int32.toInt ex104
            have yx113 := congrArg Int32.toInt ex105
            have yx114 := congrArg Int32.toInt ex106
            have yx115 := congrArg Int32.toInt ex107
            have pq_g32 : 0 ≤ (g32 0 20).toInt ∧ (g32 0 20).toInt ≤ 800 ∧ 0 ≤ (g32 0 21).toInt ∧ (g32 0 21).toInt ≤ 160 ∧ 0 ≤ (g32 0 24).toInt ∧ (g32 0 24).toInt ≤ (g32 0 22).toInt ∧ (g32 0 22).toInt ≤ (g32 0 21).toInt ∧ ((g32 0 23).toInt = 3 → (g32 0 24).toInt < (g32 0 22).toInt) := I_g32.2
            have tx116 : (0 : Int32).toInt = 0 := by decide
            exact sf_some (⟨I_g32, ex100, ex101, ex102, ex103, ex104, (show (h 0 24).toInt ≤ (g32 0 24).toInt by omega)⟩)
        · skip
          refine sf_oV (s_X7_fail h I_h ) (fun g33 pg33 => ?_)
          obtain ⟨I_g33, ex117, ex118, ex119, ex120, ex121, ex122, ex123, ex124, qg33⟩ := pg33
          try simp only at I_g33 ex117 ex118 ex119 ex120 ex121 ex122 ex123 ex124 qg33
          have yx125 := congrArg Int32.toInt ex117
          have yx126 := congrArg Int32.toInt ex118
          have yx127 := congrArg Int32.toInt ex119
          have yx128 := congrArg Int32.toInt ex120
          have yx129 := congrArg Int32.toInt ex121
          have yx130 := congrArg Int32.toInt ex122
          have yx131 := congrArg Int32.toInt ex123
          have yx132 := congrArg Int32.toInt ex124
          have pq_g33 : 0 ≤ (g33 0 20).toInt ∧ (g33 0 20).toInt ≤ 800 ∧ 0 ≤ (g33 0 21).toInt ∧ (g33 0 21).toInt ≤ 160 ∧ 0 ≤ (g33 0 24).toInt ∧ (g33 0 24).toInt ≤ (g33 0 22).toInt ∧ (g33 0 22).toInt ≤ (g33 0 21).toInt ∧ ((g33 0 23).toInt = 3 → (g33 0 24).toInt < (g33 0 22).toInt) := I_g33.2
          have tx133 : (0 : Int32).toInt = 0 := by decide
          exact sf_some (⟨I_g33, ex117, ex118, ex119, ex120, ex121, (show (h 0 24).toInt ≤ (g33 0 24).toInt by omega)⟩)
    · skip
      refine sf_oI (s_X7_opens h I_h ) (fun r34 g35 pg35 => ?_)
      obtain ⟨I_g35, ex134, ex135, ex136, ex137, ex138, qg35⟩ := pg35
      try simp only at I_g35 ex134 ex135 ex136 ex137 ex138 qg35
      have yx139 := congrArg Int32.toInt ex134
      have yx140 := congrArg Int32.toInt ex135
      have yx141 := congrArg Int32.toInt ex136
      have yx142 := congrArg Int32.toInt ex137
      have yx143 := congrArg Int32.toInt ex138
      have pq_g35 : 0 ≤ (g35 0 20).toInt ∧ (g35 0 20).toInt ≤ 800 ∧ 0 ≤ (g35 0 21).toInt ∧ (g35 0 21).toInt ≤ 160 ∧ 0 ≤ (g35 0 24).toInt ∧ (g35 0 24).toInt ≤ (g35 0 22).toInt ∧ (g35 0 22).toInt ≤ (g35 0 21).toInt ∧ ((g35 0 23).toInt = 3 → (g35 0 24).toInt < (g35 0 22).toInt) := I_g35.2
      refine sf_ite (fun c36 => ?_) (fun c37 => ?_)
      · skip
        have tx144 : (0 : Int32).toInt = 0 := by decide
        exact sf_some (⟨I_g35, ex134, ex135, ex136, ex137, ex138, (show (h 0 24).toInt ≤ (g35 0 24).toInt by omega)⟩)
      · skip
        refine sf_oI (s_X7_either4 g35 I_g35 ) (fun r38 g39 pg39 => ?_)
        obtain ⟨I_g39, ex145, ex146, ex147, ex148, ex149, qg39⟩ := pg39
        try simp only at I_g39 ex145 ex146 ex147 ex148 ex149 qg39
        have yx150 := congrArg Int32.toInt ex145
        have yx151 := congrArg Int32.toInt ex146
        have yx152 := congrArg Int32.toInt ex147
        have yx153 := congrArg Int32.toInt ex148
        have yx154 := congrArg Int32.toInt ex149
        have pq_g39 : 0 ≤ (g39 0 20).toInt ∧ (g39 0 20).toInt ≤ 800 ∧ 0 ≤ (g39 0 21).toInt ∧ (g39 0 21).toInt ≤ 160 ∧ 0 ≤ (g39 0 24).toInt ∧ (g39 0 24).toInt ≤ (g39 0 22).toInt ∧ (g39 0 22).toInt ≤ (g39 0 21).toInt ∧ ((g39 0 23).toInt = 3 → (g39 0 24).toInt < (g39 0 22).toInt) := I_g39.2
        have tx155 : (41 : Int32).toInt = 41 := by decide
        refine sf_oP (s_X7_isSign g39 I_g39 (41 : Int32)) (fun r40 pr40 => ?_)
        refine sf_ite (fun c41 => ?_) (fun c42 => ?_)
        · skip
          refine sf_oV (s_X7_fail g39 I_g39 ) (fun g43 pg43 => ?_)
          obtain ⟨I_g43, ex156, ex157, ex158, ex159, ex160, ex161, ex162, ex163, qg43⟩ := pg43
          try simp only at I_g43 ex156 ex157 ex158 ex159 ex160 ex161 ex162 ex163 qg43
          have yx164 := congrArg Int32.toInt ex156
          have yx165 := congrArg Int32.toInt ex157
          have yx166 := congrArg Int32.toInt ex158
          have yx167 := congrArg Int32.toInt ex159
          have yx168 := congrArg Int32.toInt ex160
          have yx169 := congrArg Int32.toInt ex161
          have yx170 := congrArg Int32.toInt ex162
          have yx171 := congrArg Int32.toInt ex163
          have pq_g43 : 0 ≤ (g43 0 20).toInt ∧ (g43 0 20).toInt ≤ 800 ∧ 0 ≤ (g43 0 21).toInt ∧ (g43 0 21).toInt ≤ 160 ∧ 0 ≤ (g43 0 24).toInt ∧ (g43 0 24).toInt ≤ (g43 0 22).toInt ∧ (g43 0 22).toInt ≤ (g43 0 21).toInt ∧ ((g43 0 23).toInt = 3 → (g43 0 24).toInt < (g43 0 22).toInt) := I_g43.2
          try have tx172 : ((g43 0 26) - 1).toInt = (g43 0 26).toInt - 1 := i_sub rfl (by decide) (by omega) (by omega)
          refine sf_oH (fun g44 hg44 => ?_)
          have I_g44 : InvQ g44 := by rw [hg44]; exact invQ_free I_g43 rfl (by decide)
          have pq_g44 : 0 ≤ (g44 0 20).toInt ∧ (g44 0 20).toInt ≤ 800 ∧ 0 ≤ (g44 0 21).toInt ∧ (g44 0 21).toInt ≤ 160 ∧ 0 ≤ (g44 0 24).toInt ∧ (g44 0 24).toInt ≤ (g44 0 22).toInt ∧ (g44 0 22).toInt ≤ (g44 0 21).toInt ∧ ((g44 0 23).toInt = 3 → (g44 0 24).toInt < (g44 0 22).toInt) := I_g44.2
          have ex173 : g44 0 3 = g43 0 3 := by rw [hg44]; exact dU_ne (by omega)
          have yx174 := congrArg Int32.toInt ex173
          have ex175 : g44 0 4 = g43 0 4 := by rw [hg44]; exact dU_ne (by omega)
          have yx176 := congrArg Int32.toInt ex175
          have ex177 : g44 0 13 = g43 0 13 := by rw [hg44]; exact dU_ne (by omega)
          have yx178 := congrArg Int32.toInt ex177
          have ex179 : g44 0 20 = g43 0 20 := by rw [hg44]; exact dU_ne (by omega)
          have yx180 := congrArg Int32.toInt ex179
          have ex181 : g44 0 21 = g43 0 21 := by rw [hg44]; exact dU_ne (by omega)
          have yx182 := congrArg Int32.toInt ex181
          have ex183 : g44 0 22 = g43 0 22 := by rw [hg44]; exact dU_ne (by omega)
          have yx184 := congrArg Int32.toInt ex183
          have ex185 : g44 0 23 = g43 0 23 := by rw [hg44]; exact dU_ne (by omega)
          have yx186 := congrArg Int32.toInt ex185
          have ex187 : g44 0 24 = g43 0 24 := by rw [hg44]; exact dU_ne (by omega)
          have yx188 := congrArg Int32.toInt ex187
          have yx189 : (g44 0 26).toInt = ((g43 0 26) - 1).toInt := by rw [hg44, dU_eq]
          refine sf_ite (fun c45 => ?_) (fun c46 => ?_)
          · skip
            refine sf_oV (s_X7_next g44 I_g44.1 (by omega)) (fun g47 pg47 => ?_)
            obtain ⟨I_g47, ex190, ex191, ex192, ex193, ex194, qg47⟩ := pg47
            try simp only at I_g47 ex190 ex191 ex192 ex193 ex194 qg47
            have yx195 := congrArg Int32.toInt ex190
            have yx196 := congrArg Int32.toInt ex191
            have yx197 := congrArg Int32.toInt ex192
            have yx198 := congrArg Int32.toInt ex193
            have yx199 := congrArg Int32.toInt ex194
            have pq_g47 : 0 ≤ (g47 0 20).toInt ∧ (g47 0 20).toInt ≤ 800 ∧ 0 ≤ (g47 0 21).toInt ∧ (g47 0 21).toInt ≤ 160 ∧ 0 ≤ (g47 0 24).toInt ∧ (g47 0 24).toInt ≤ (g47 0 22).toInt ∧ (g47 0 22).toInt ≤ (g47 0 21).toInt ∧ ((g47 0 23).toInt = 3 → (g47 0 24).toInt < (g47 0 22).toInt) := I_g47.2
            exact sf_some (⟨I_g47, (ex190.trans (ex173.trans (ex156.trans (ex145.trans ex134)))), (ex191.trans (ex175.trans (ex157.trans (ex146.trans ex135)))), (ex192.trans (ex177.trans (ex158.trans (ex147.trans ex136)))), (ex193.trans (ex179.trans (ex159.trans (ex148.trans ex137)))), (ex194.trans (ex181.trans (ex160.trans (ex149.trans ex138)))), (show (h 0 24).toInt ≤ (g47 0 24).toInt by omega)⟩)
          · skip
            exact sf_some (⟨I_g44, (ex173.trans (ex156.trans (ex145.trans ex134))), (ex175.trans (ex157.trans (ex146.trans ex135))), (ex177.trans (ex158.trans (ex147.trans ex136))), (ex179.trans (ex159.trans (ex148.trans ex137))), (ex181.trans (ex160.trans (ex149.trans ex138))), (show (h 0 24).toInt ≤ (g44 0 24).toInt by omega)⟩)
        · skip
          try have tx200 : ((g39 0 26) - 1).toInt = (g39 0 26).toInt - 1 := i_sub rfl (by decide) (by omega) (by omega)
          refine sf_oH (fun g48 hg48 => ?_)
          have I_g48 : InvQ g48 := by rw [hg48]; exact invQ_free I_g39 rfl (by decide)
          have pq_g48 : 0 ≤ (g48 0 20).toInt ∧ (g48 0 20).toInt ≤ 800 ∧ 0 ≤ (g48 0 21).toInt ∧ (g48 0 21).toInt ≤ 160 ∧ 0 ≤ (g48 0 24).toInt ∧ (g48 0 24).toInt ≤ (g48 0 22).toInt ∧ (g48 0 22).toInt ≤ (g48 0 21).toInt ∧ ((g48 0 23).toInt = 3 → (g48 0 24).toInt < (g48 0 22).toInt) := I_g48.2
          have ex201 : g48 0 3 = g39 0 3 := by rw [hg48]; exact dU_ne (by omega)
          have yx202 := congrArg Int32.toInt ex201
          have ex203 : g48 0 4 = g39 0 4 := by rw [hg48]; exact dU_ne (by omega)
          have yx204 := congrArg Int32.toInt ex203
          have ex205 : g48 0 13 = g39 0 13 := by rw [hg48]; exact dU_ne (by omega)
          have yx206 := congrArg Int32.toInt ex205
          have ex207 : g48 0 20 = g39 0 20 := by rw [hg48]; exact dU_ne (by omega)
          have yx208 := congrArg Int32.toInt ex207
          have ex209 : g48 0 21 = g39 0 21 := by rw [hg48]; exact dU_ne (by omega)
          have yx210 := congrArg Int32.toInt ex209
          have ex211 : g48 0 22 = g39 0 22 := by rw [hg48]; exact dU_ne (by omega)
          have yx212 := congrArg Int32.toInt ex211
          have ex213 : g48 0 23 = g39 0 23 := by rw [hg48]; exact dU_ne (by omega)
          have yx214 := congrArg Int32.toInt ex213
          have ex215 : g48 0 24 = g39 0 24 := by rw [hg48]; exact dU_ne (by omega)
          have yx216 := congrArg Int32.toInt ex215
          have yx217 : (g48 0 26).toInt = ((g39 0 26) - 1).toInt := by rw [hg48, dU_eq]
          refine sf_ite (fun c49 => ?_) (fun c50 => ?_)
          · skip
            refine sf_oV (s_X7_next g48 I_g48.1 (by omega)) (fun g51 pg51 => ?_)
            obtain ⟨I_g51, ex218, ex219, ex220, ex221, ex222, qg51⟩ := pg51
            try simp only at I_g51 ex218 ex219 ex220 ex221 ex222 qg51
            have yx223 := congrArg Int32.toInt ex218
            have yx224 := congrArg Int32.toInt ex219
            have yx225 := congrArg Int32.toInt ex220
            have yx226 := congrArg Int32.toInt ex221
            have yx227 := congrArg Int32.toInt ex222
            have pq_g51 : 0 ≤ (g51 0 20).toInt ∧ (g51 0 20).toInt ≤ 800 ∧ 0 ≤ (g51 0 21).toInt ∧ (g51 0 21).toInt ≤ 160 ∧ 0 ≤ (g51 0 24).toInt ∧ (g51 0 24).toInt ≤ (g51 0 22).toInt ∧ (g51 0 22).toInt ≤ (g51 0 21).toInt ∧ ((g51 0 23).toInt = 3 → (g51 0 24).toInt < (g51 0 22).toInt) := I_g51.2
            exact sf_some (⟨I_g51, (ex218.trans (ex201.trans (ex145.trans ex134))), (ex219.trans (ex203.trans (ex146.trans ex135))), (ex220.trans (ex205.trans (ex147.trans ex136))), (ex221.trans (ex207.trans (ex148.trans ex137))), (ex222.trans (ex209.trans (ex149.trans ex138))), (show (h 0 24).toInt ≤ (g51 0 24).toInt by omega)⟩)
          · skip
            exact sf_some (⟨I_g48, (ex201.trans (ex145.trans ex134)), (ex203.trans (ex146.trans ex135)), (ex205.trans (ex147.trans ex136)), (ex207.trans (ex148.trans ex137)), (ex209.trans (ex149.trans ex138)), (show (h 0 24).toInt ≤ (g48 0 24).toInt by omega)⟩)
  · skip
    refine sf_oI (s_X7_opens h I_h ) (fun r52 g53 pg53 => ?_)
    obtain ⟨I_g53, ex228, ex229, ex230, ex231, ex232, qg53⟩ := pg53
    try simp only at I_g53 ex228 ex229 ex230 ex231 ex232 qg53
    have yx233 := congrArg Int32.toInt ex228
    have yx234 := congrArg Int32.toInt ex229
    have yx235 := congrArg Int32.toInt ex230
    have yx236 := congrArg Int32.toInt ex231
    have yx237 := congrArg Int32.toInt ex232
    have pq_g53 : 0 ≤ (g53 0 20).toInt ∧ (g53 0 20).toInt ≤ 800 ∧ 0 ≤ (g53 0 21).toInt ∧ (g53 0 21).toInt ≤ 160 ∧ 0 ≤ (g53 0 24).toInt ∧ (g53 0 24).toInt ≤ (g53 0 22).toInt ∧ (g53 0 22).toInt ≤ (g53 0 21).toInt ∧ ((g53 0 23).toInt = 3 → (g53 0 24).toInt < (g53 0 22).toInt) := I_g53.2
    refine sf_ite (fun c54 => ?_) (fun c55 => ?_)
    · skip
      have tx238 : (0 : Int32).toInt = 0 := by decide
      exact sf_some (⟨I_g53, ex228, ex229, ex230, ex231, ex232, (show (h 0 24).toInt ≤ (g53 0 24).toInt by omega)⟩)
    · skip
      refine sf_oI (s_X7_atom4 g53 I_g53 ) (fun r56 g57 pg57 => ?_)
      obtain ⟨I_g57, ex239, ex240, ex241, ex242, ex243, qg57⟩ := pg57
      try simp only at I_g57 ex239 ex240 ex241 ex242 ex243 qg57
      have yx244 := congrArg Int32.toInt ex239
      have yx245 := congrArg Int32.toInt ex240
      have yx246 := congrArg Int32.toInt ex241
      have yx247 := congrArg Int32.toInt ex242
      have yx248 := congrArg Int32.toInt ex243
      have pq_g57 : 0 ≤ (g57 0 20).toInt ∧ (g57 0 20).toInt ≤ 800 ∧ 0 ≤ (g57 0 21).toInt ∧ (g57 0 21).toInt ≤ 160 ∧ 0 ≤ (g57 0 24).toInt ∧ (g57 0 24).toInt ≤ (g57 0 22).toInt ∧ (g57 0 22).toInt ≤ (g57 0 21).toInt ∧ ((g57 0 23).toInt = 3 → (g57 0 24).toInt < (g57 0 22).toInt) := I_g57.2
      try have tx249 : ((g57 0 26) - 1).toInt = (g57 0 26).toInt - 1 := i_sub rfl (by decide) (by omega) (by omega)
      refine sf_oH (fun g58 hg58 => ?_)
      have I_g58 : InvQ g58 := by rw [hg58]; exact invQ_free I_g57 rfl (by decide)
      have pq_g58 : 0 ≤ (g58 0 20).toInt ∧ (g58 0 20).toInt ≤ 800 ∧ 0 ≤ (g58 0 21).toInt ∧ (g58 0 21).toInt ≤ 160 ∧ 0 ≤ (g58 0 24).toInt ∧ (g58 0 24).toInt ≤ (g58 0 22).toInt ∧ (g58 0 22).toInt ≤ (g58 0 21).toInt ∧ ((g58 0 23).toInt = 3 → (g58 0 24).toInt < (g58 0 22).toInt) := I_g58.2
      have ex250 : g58 0 3 = g57 0 3 := by rw [hg58]; exact dU_ne (by omega)
      have yx251 := congrArg Int32.toInt ex250
      have ex252 : g58 0 4 = g57 0 4 := by rw [hg58]; exact dU_ne (by omega)
      have yx253 := congrArg Int32.toInt ex252
      have ex254 : g58 0 13 = g57 0 13 := by rw [hg58]; exact dU_ne (by omega)
      have yx255 := congrArg Int32.toInt ex254
      have ex256 : g58 0 20 = g57 0 20 := by rw [hg58]; exact dU_ne (by omega)
      have yx257 := congrArg Int32.toInt ex256
      have ex258 : g58 0 21 = g57 0 21 := by rw [hg58]; exact dU_ne (by omega)
      have yx259 := congrArg Int32.toInt ex258
      have ex260 : g58 0 22 = g57 0 22 := by rw [hg58]; exact dU_ne (by omega)
      have yx261 := congrArg Int32.toInt ex260
      have ex262 : g58 0 23 = g57 0 23 := by rw [hg58]; exact dU_ne (by omega)
      have yx263 := congrArg Int32.toInt ex262
      have ex264 : g58 0 24 = g57 0 24 := by rw [hg58]; exact dU_ne (by omega)
      have yx265 := congrArg Int32.toInt ex264
      have yx266 : (g58 0 26).toInt = ((g57 0 26) - 1).toInt := by rw [hg58, dU_eq]
      exact sf_some (⟨I_g58, (ex250.trans (ex239.trans ex228)), (ex252.trans (ex240.trans ex229)), (ex254.trans (ex241.trans ex230)), (ex256.trans (ex242.trans ex231)), (ex258.trans (ex243.trans ex232)), (show (h 0 24).toInt ≤ (g58 0 24).toInt by omega)⟩)
theorem sl_X7_term3_5   (h0 : dH) (I_h0 : InvQ h0)  (k : Int32 → dH → Option (Int32 × dH)) (Q : Int32 × dH → Prop) (hk : ∀ (v1 : Int32) (g : dH) (Ig : InvQ g) (e0 : g 0 3 = h0 0 3) (e1 : g 0 4 = h0 0 4) (e2 : g 0 13 = h0 0 13) (e3 : g 0 20 = h0 0 20) (e4 : g 0 21 = h0 0 21), (h0 0 24).toInt ≤ (g 0 24).toInt → Sf (k v1 g) Q)  : ∀ (n : Nat) (v1 : Int32) (h : dH) (I_h : InvQ h) (e0 : h 0 3 = h0 0 3) (e1 : h 0 4 = h0 0 4) (e2 : h 0 13 = h0 0 13) (e3 : h 0 20 = h0 0 20) (e4 : h 0 21 = h0 0 21), (h0 0 24).toInt ≤ (h 0 24).toInt → 160 - (h 0 24).toInt < (n : Int) → Sf (l_X7_term3_5  k n v1 h) Q
  | 0, v1, h, I_h, e0, e1, e2, e3, e4, hi, hm => by have := pq24 I_h; omega
  | n + 1, v1, h, I_h, e0, e1, e2, e3, e4, hi, hm => by
    rw [l_X7_term3_5]
    have pq_h : 0 ≤ (h 0 20).toInt ∧ (h 0 20).toInt ≤ 800 ∧ 0 ≤ (h 0 21).toInt ∧ (h 0 21).toInt ≤ 160 ∧ 0 ≤ (h 0 24).toInt ∧ (h 0 24).toInt ≤ (h 0 22).toInt ∧ (h 0 22).toInt ≤ (h 0 21).toInt ∧ ((h 0 23).toInt = 3 → (h 0 24).toInt < (h 0 22).toInt) := I_h.2
    have yx11 := congrArg Int32.toInt e0
    have yx12 := congrArg Int32.toInt e1
    have yx13 := congrArg Int32.toInt e2
    have yx14 := congrArg Int32.toInt e3
    have yx15 := congrArg Int32.toInt e4
    have tx16 : (42 : Int32).toInt = 42 := by decide
    refine sf_oP (s_X7_isSign h I_h (42 : Int32)) (fun r3 pr3 => ?_)
    refine sf_ite (fun c4 => ?_) (fun c5 => ?_)
    · skip
      exact hk v1 h I_h e0 e1 e2 e3 e4 (by first | trivial | omega)
    · skip
      refine sf_oV (s_X7_next h I_h.1 (by omega)) (fun g6 pg6 => ?_)
      obtain ⟨I_g6, ex17, ex18, ex19, ex20, ex21, qg6⟩ := pg6
      try simp only at I_g6 ex17 ex18 ex19 ex20 ex21 qg6
      have yx22 := congrArg Int32.toInt ex17
      have yx23 := congrArg Int32.toInt ex18
      have yx24 := congrArg Int32.toInt ex19
      have yx25 := congrArg Int32.toInt ex20
      have yx26 := congrArg Int32.toInt ex21
      have pq_g6 : 0 ≤ (g6 0 20).toInt ∧ (g6 0 20).toInt ≤ 800 ∧ 0 ≤ (g6 0 21).toInt ∧ (g6 0 21).toInt ≤ 160 ∧ 0 ≤ (g6 0 24).toInt ∧ (g6 0 24).toInt ≤ (g6 0 22).toInt ∧ (g6 0 22).toInt ≤ (g6 0 21).toInt ∧ ((g6 0 23).toInt = 3 → (g6 0 24).toInt < (g6 0 22).toInt) := I_g6.2
      refine sf_oI (s_X7_atom3 g6 I_g6 ) (fun r7 g8 pg8 => ?_)
      obtain ⟨I_g8, ex27, ex28, ex29, ex30, ex31, qg8⟩ := pg8
      try simp only at I_g8 ex27 ex28 ex29 ex30 ex31 qg8
      have yx32 := congrArg Int32.toInt ex27
      have yx33 := congrArg Int32.toInt ex28
      have yx34 := congrArg Int32.toInt ex29
      have yx35 := congrArg Int32.toInt ex30
      have yx36 := congrArg Int32.toInt ex31
      have pq_g8 : 0 ≤ (g8 0 20).toInt ∧ (g8 0 20).toInt ≤ 800 ∧ 0 ≤ (g8 0 21).toInt ∧ (g8 0 21).toInt ≤ 160 ∧ 0 ≤ (g8 0 24).toInt ∧ (g8 0 24).toInt ≤ (g8 0 22).toInt ∧ (g8 0 22).toInt ≤ (g8 0 21).toInt ∧ ((g8 0 23).toInt = 3 → (g8 0 24).toInt < (g8 0 22).toInt) := I_g8.2
      try have tx37 : (v1 * r7).toInt = v1.toInt * r7.toInt := i_mul rfl rfl (by omega) (by omega)
      exact sl_X7_term3_5    h0 I_h0  k Q hk n (v1 * r7) g8 I_g8 (ex27.trans (ex17.trans e0)) (ex28.trans (ex18.trans e1)) (ex29.trans (ex19.trans e2)) (ex30.trans (ex20.trans e3)) (ex31.trans (ex21.trans e4)) (by first | trivial | omega) (by omega)
theorem s_X7_term3 (h : dH) (I_h : InvQ h)   : Sf (f_X7_term3  h) (fun o => InvQ o.2 ∧ o.2 0 3 = h 0 3 ∧ o.2 0 4 = h 0 4 ∧ o.2 0 13 = h 0 13 ∧ o.2 0 20 = h 0 20 ∧ o.2 0 21 = h 0 21 ∧ (h 0 24).toInt ≤ (o.2 0 24).toInt) := by
  unfold f_X7_term3
  have pq_h : 0 ≤ (h 0 20).toInt ∧ (h 0 20).toInt ≤ 800 ∧ 0 ≤ (h 0 21).toInt ∧ (h 0 21).toInt ≤ 160 ∧ 0 ≤ (h 0 24).toInt ∧ (h 0 24).toInt ≤ (h 0 22).toInt ∧ (h 0 22).toInt ≤ (h 0 21).toInt ∧ ((h 0 23).toInt = 3 → (h 0 24).toInt < (h 0 22).toInt) := I_h.2
  refine sf_oI (s_X7_atom3 h I_h ) (fun r1 g2 pg2 => ?_)
  obtain ⟨I_g2, ex1, ex2, ex3, ex4, ex5, qg2⟩ := pg2
  try simp only at I_g2 ex1 ex2 ex3 ex4 ex5 qg2
  have yx6 := congrArg Int32.toInt ex1
  have yx7 := congrArg Int32.toInt ex2
  have yx8 := congrArg Int32.toInt ex3
  have yx9 := congrArg Int32.toInt ex4
  have yx10 := congrArg Int32.toInt ex5
  have pq_g2 : 0 ≤ (g2 0 20).toInt ∧ (g2 0 20).toInt ≤ 800 ∧ 0 ≤ (g2 0 21).toInt ∧ (g2 0 21).toInt ≤ 160 ∧ 0 ≤ (g2 0 24).toInt ∧ (g2 0 24).toInt ≤ (g2 0 22).toInt ∧ (g2 0 22).toInt ≤ (g2 0 21).toInt ∧ ((g2 0 23).toInt = 3 → (g2 0 24).toInt < (g2 0 22).toInt) := I_g2.2
  have := pq24 I_g2
  refine sl_X7_term3_5   g2 I_g2  _ _ (fun v1_9 g10 I_g10 eg10_0 eg10_1 eg10_2 eg10_3 eg10_4 px38 => ?_)  fuel0 r1 g2 I_g2 rfl rfl rfl rfl rfl (by first | trivial | omega) (by have := fuel0_eq; omega)
  have yx39 := congrArg Int32.toInt eg10_0
  have yx40 := congrArg Int32.toInt eg10_1
  have yx41 := congrArg Int32.toInt eg10_2
  have yx42 := congrArg Int32.toInt eg10_3
  have yx43 := congrArg Int32.toInt eg10_4
  have pq_g10 : 0 ≤ (g10 0 20).toInt ∧ (g10 0 20).toInt ≤ 800 ∧ 0 ≤ (g10 0 21).toInt ∧ (g10 0 21).toInt ≤ 160 ∧ 0 ≤ (g10 0 24).toInt ∧ (g10 0 24).toInt ≤ (g10 0 22).toInt ∧ (g10 0 22).toInt ≤ (g10 0 21).toInt ∧ ((g10 0 23).toInt = 3 → (g10 0 24).toInt < (g10 0 22).toInt) := I_g10.2
  exact sf_some (⟨I_g10, (eg10_0.trans ex1), (eg10_1.trans ex2), (eg10_2.trans ex3), (eg10_3.trans ex4), (eg10_4.trans ex5), (show (h 0 24).toInt ≤ (g10 0 24).toInt by omega)⟩)
theorem sl_X7_added3_5   (h0 : dH) (I_h0 : InvQ h0)  (k : Int32 → dH → Option (Int32 × dH)) (Q : Int32 × dH → Prop) (hk : ∀ (v1 : Int32) (g : dH) (Ig : InvQ g) (e0 : g 0 3 = h0 0 3) (e1 : g 0 4 = h0 0 4) (e2 : g 0 13 = h0 0 13) (e3 : g 0 20 = h0 0 20) (e4 : g 0 21 = h0 0 21), (h0 0 24).toInt ≤ (g 0 24).toInt → Sf (k v1 g) Q)  : ∀ (n : Nat) (v1 : Int32) (h : dH) (I_h : InvQ h) (e0 : h 0 3 = h0 0 3) (e1 : h 0 4 = h0 0 4) (e2 : h 0 13 = h0 0 13) (e3 : h 0 20 = h0 0 20) (e4 : h 0 21 = h0 0 21), (h0 0 24).toInt ≤ (h 0 24).toInt → 160 - (h 0 24).toInt < (n : Int) → Sf (l_X7_added3_5  k n v1 h) Q
  | 0, v1, h, I_h, e0, e1, e2, e3, e4, hi, hm => by have := pq24 I_h; omega
  | n + 1, v1, h, I_h, e0, e1, e2, e3, e4, hi, hm => by
    rw [l_X7_added3_5]
    have pq_h : 0 ≤ (h 0 20).toInt ∧ (h 0 20).toInt ≤ 800 ∧ 0 ≤ (h 0 21).toInt ∧ (h 0 21).toInt ≤ 160 ∧ 0 ≤ (h 0 24).toInt ∧ (h 0 24).toInt ≤ (h 0 22).toInt ∧ (h 0 22).toInt ≤ (h 0 21).toInt ∧ ((h 0 23).toInt = 3 → (h 0 24).toInt < (h 0 22).toInt) := I_h.2
    have yx11 := congrArg Int32.toInt e0
    have yx12 := congrArg Int32.toInt e1
    have yx13 := congrArg Int32.toInt e2
    have yx14 := congrArg Int32.toInt e3
    have yx15 := congrArg Int32.toInt e4
    have tx16 : (43 : Int32).toInt = 43 := by decide
    refine sf_oP (s_X7_isSign h I_h (43 : Int32)) (fun r3 pr3 => ?_)
    refine sf_ite (fun c4 => ?_) (fun c5 => ?_)
    · skip
      have tx17 : (45 : Int32).toInt = 45 := by decide
      refine sf_oP (s_X7_isSign h I_h (45 : Int32)) (fun r6 pr6 => ?_)
      refine sf_ite (fun c7 => ?_) (fun c8 => ?_)
      · skip
        exact hk v1 h I_h e0 e1 e2 e3 e4 (by first | trivial | omega)
      · skip
        have tx18 : (h 0 25).toInt64.toInt = (h 0 25).toInt := l_i2l
        have tx19 : (43 : Int64).toInt = 43 := by decide
        have tx20 := dlcmp_ok ((h 0 25).toInt64) 43
        refine sf_ite (fun c9 => ?_) (fun c10 => ?_)
        · skip
          refine sf_oV (s_X7_next h I_h.1 (by omega)) (fun g11 pg11 => ?_)
          obtain ⟨I_g11, ex21, ex22, ex23, ex24, ex25, qg11⟩ := pg11
          try simp only at I_g11 ex21 ex22 ex23 ex24 ex25 qg11
          have yx26 := congrArg Int32.toInt ex21
          have yx27 := congrArg Int32.toInt ex22
          have yx28 := congrArg Int32.toInt ex23
          have yx29 := congrArg Int32.toInt ex24
          have yx30 := congrArg Int32.toInt ex25
          have pq_g11 : 0 ≤ (g11 0 20).toInt ∧ (g11 0 20).toInt ≤ 800 ∧ 0 ≤ (g11 0 21).toInt ∧ (g11 0 21).toInt ≤ 160 ∧ 0 ≤ (g11 0 24).toInt ∧ (g11 0 24).toInt ≤ (g11 0 22).toInt ∧ (g11 0 22).toInt ≤ (g11 0 21).toInt ∧ ((g11 0 23).toInt = 3 → (g11 0 24).toInt < (g11 0 22).toInt) := I_g11.2
          refine sf_oI (s_X7_term3 g11 I_g11 ) (fun r12 g13 pg13 => ?_)
          obtain ⟨I_g13, ex31, ex32, ex33, ex34, ex35, qg13⟩ := pg13
          try simp only at I_g13 ex31 ex32 ex33 ex34 ex35 qg13
          have yx36 := congrArg Int32.toInt ex31
          have yx37 := congrArg Int32.toInt ex32
          have yx38 := congrArg Int32.toInt ex33
          have yx39 := congrArg Int32.toInt ex34
          have yx40 := congrArg Int32.toInt ex35
          have pq_g13 : 0 ≤ (g13 0 20).toInt ∧ (g13 0 20).toInt ≤ 800 ∧ 0 ≤ (g13 0 21).toInt ∧ (g13 0 21).toInt ≤ 160 ∧ 0 ≤ (g13 0 24).toInt ∧ (g13 0 24).toInt ≤ (g13 0 22).toInt ∧ (g13 0 22).toInt ≤ (g13 0 21).toInt ∧ ((g13 0 23).toInt = 3 → (g13 0 24).toInt < (g13 0 22).toInt) := I_g13.2
          try have tx41 : (v1 + r12).toInt = v1.toInt + r12.toInt := i_add rfl rfl (by omega) (by omega)
          exact sl_X7_added3_5    h0 I_h0  k Q hk n (v1 + r12) g13 I_g13 (ex31.trans (ex21.trans e0)) (ex32.trans (ex22.trans e1)) (ex33.trans (ex23.trans e2)) (ex34.trans (ex24.trans e3)) (ex35.trans (ex25.trans e4)) (by first | trivial | omega) (by omega)
        · skip
          refine sf_oV (s_X7_next h I_h.1 (by omega)) (fun g14 pg14 => ?_)
          obtain ⟨I_g14, ex42, ex43, ex44, ex45, ex46, qg14⟩ := pg14
          try simp only at I_g14 ex42 ex43 ex44 ex45 ex46 qg14
          have yx47 := congrArg Int32.toInt ex42
          have yx48 := congrArg Int32.toInt ex43
          have yx49 := congrArg Int32.toInt ex44
          have yx50 := congrArg Int32.toInt ex45
          have yx51 := congrArg Int32.toInt ex46
          have pq_g14 : 0 ≤ (g14 0 20).toInt ∧ (g14 0 20).toInt ≤ 800 ∧ 0 ≤ (g14 0 21).toInt ∧ (g14 0 21).toInt ≤ 160 ∧ 0 ≤ (g14 0 24).toInt ∧ (g14 0 24).toInt ≤ (g14 0 22).toInt ∧ (g14 0 22).toInt ≤ (g14 0 21).toInt ∧ ((g14 0 23).toInt = 3 → (g14 0 24).toInt < (g14 0 22).toInt) := I_g14.2
          refine sf_oI (s_X7_term3 g14 I_g14 ) (fun r15 g16 pg16 => ?_)
          obtain ⟨I_g16, ex52, ex53, ex54, ex55, ex56, qg16⟩ := pg16
          try simp only at I_g16 ex52 ex53 ex54 ex55 ex56 qg16
          have yx57 := congrArg Int32.toInt ex52
          have yx58 := congrArg Int32.toInt ex53
          have yx59 := congrArg Int32.toInt ex54
          have yx60 := congrArg Int32.toInt ex55
          have yx61 := congrArg Int32.toInt ex56
          have pq_g16 : 0 ≤ (g16 0 20).toInt ∧ (g16 0 20).toInt ≤ 800 ∧ 0 ≤ (g16 0 21).toInt ∧ (g16 0 21).toInt ≤ 160 ∧ 0 ≤ (g16 0 24).toInt ∧ (g16 0 24).toInt ≤ (g16 0 22).toInt ∧ (g16 0 22).toInt ≤ (g16 0 21).toInt ∧ ((g16 0 23).toInt = 3 → (g16 0 24).toInt < (g16 0 22).toInt) := I_g16.2
          try have tx62 : (v1 - r15).toInt = v1.toInt - r15.toInt := i_sub rfl rfl (by omega) (by omega)
          exact sl_X7_added3_5    h0 I_h0  k Q hk n (v1 - r15) g16 I_g16 (ex52.trans (ex42.trans e0)) (ex53.trans (ex43.trans e1)) (ex54.trans (ex44.trans e2)) (ex55.trans (ex45.trans e3)) (ex56.trans (ex46.trans e4)) (by first | trivial | omega) (by omega)
    · skip
      have tx63 : (h 0 25).toInt64.toInt = (h 0 25).toInt := l_i2l
      have tx64 : (43 : Int64).toInt = 43 := by decide
      have tx65 := dlcmp_ok ((h 0 25).toInt64) 43
      refine sf_ite (fun c17 => ?_) (fun c18 => ?_)
      · skip
        refine sf_oV (s_X7_next h I_h.1 (by omega)) (fun g19 pg19 => ?_)
        obtain ⟨I_g19, ex66, ex67, ex68, ex69, ex70, qg19⟩ := pg19
        try simp only at I_g19 ex66 ex67 ex68 ex69 ex70 qg19
        have yx71 := congrArg Int32.toInt ex66
        have yx72 := congrArg Int32.toInt ex67
        have yx73 := congrArg Int32.toInt ex68
        have yx74 := congrArg Int32.toInt ex69
        have yx75 := congrArg Int32.toInt ex70
        have pq_g19 : 0 ≤ (g19 0 20).toInt ∧ (g19 0 20).toInt ≤ 800 ∧ 0 ≤ (g19 0 21).toInt ∧ (g19 0 21).toInt ≤ 160 ∧ 0 ≤ (g19 0 24).toInt ∧ (g19 0 24).toInt ≤ (g19 0 22).toInt ∧ (g19 0 22).toInt ≤ (g19 0 21).toInt ∧ ((g19 0 23).toInt = 3 → (g19 0 24).toInt < (g19 0 22).toInt) := I_g19.2
        refine sf_oI (s_X7_term3 g19 I_g19 ) (fun r20 g21 pg21 => ?_)
        obtain ⟨I_g21, ex76, ex77, ex78, ex79, ex80, qg21⟩ := pg21
        try simp only at I_g21 ex76 ex77 ex78 ex79 ex80 qg21
        have yx81 := congrArg Int32.toInt ex76
        have yx82 := congrArg Int32.toInt ex77
        have yx83 := congrArg Int32.toInt ex78
        have yx84 := congrArg Int32.toInt ex79
        have yx85 := congrArg Int32.toInt ex80
        have pq_g21 : 0 ≤ (g21 0 20).toInt ∧ (g21 0 20).toInt ≤ 800 ∧ 0 ≤ (g21 0 21).toInt ∧ (g21 0 21).toInt ≤ 160 ∧ 0 ≤ (g21 0 24).toInt ∧ (g21 0 24).toInt ≤ (g21 0 22).toInt ∧ (g21 0 22).toInt ≤ (g21 0 21).toInt ∧ ((g21 0 23).toInt = 3 → (g21 0 24).toInt < (g21 0 22).toInt) := I_g21.2
        try have tx86 : (v1 + r20).toInt = v1.toInt + r20.toInt := i_add rfl rfl (by omega) (by omega)
        exact sl_X7_added3_5    h0 I_h0  k Q hk n (v1 + r20) g21 I_g21 (ex76.trans (ex66.trans e0)) (ex77.trans (ex67.trans e1)) (ex78.trans (ex68.trans e2)) (ex79.trans (ex69.trans e3)) (ex80.trans (ex70.trans e4)) (by first | trivial | omega) (by omega)
      · skip
        refine sf_oV (s_X7_next h I_h.1 (by omega)) (fun g22 pg22 => ?_)
        obtain ⟨I_g22, ex87, ex88, ex89, ex90, ex91, qg22⟩ := pg22
        try simp only at I_g22 ex87 ex88 ex89 ex90 ex91 qg22
        have yx92 := congrArg Int32.toInt ex87
        have yx93 := congrArg Int32.toInt ex88
        have yx94 := congrArg Int32.toInt ex89
        have yx95 := congrArg Int32.toInt ex90
        have yx96 := congrArg Int32.toInt ex91
        have pq_g22 : 0 ≤ (g22 0 20).toInt ∧ (g22 0 20).toInt ≤ 800 ∧ 0 ≤ (g22 0 21).toInt ∧ (g22 0 21).toInt ≤ 160 ∧ 0 ≤ (g22 0 24).toInt ∧ (g22 0 24).toInt ≤ (g22 0 22).toInt ∧ (g22 0 22).toInt ≤ (g22 0 21).toInt ∧ ((g22 0 23).toInt = 3 → (g22 0 24).toInt < (g22 0 22).toInt) := I_g22.2
        refine sf_oI (s_X7_term3 g22 I_g22 ) (fun r23 g24 pg24 => ?_)
        obtain ⟨I_g24, ex97, ex98, ex99, ex100, ex101, qg24⟩ := pg24
        try simp only at I_g24 ex97 ex98 ex99 ex100 ex101 qg24
        have yx102 := congrArg Int32.toInt ex97
        have yx103 := congrArg Int32.toInt ex98
        have yx104 := congrArg Int32.toInt ex99
        have yx105 := congrArg Int32.toInt ex100
        have yx106 := congrArg Int32.toInt ex101
        have pq_g24 : 0 ≤ (g24 0 20).toInt ∧ (g24 0 20).toInt ≤ 800 ∧ 0 ≤ (g24 0 21).toInt ∧ (g24 0 21).toInt ≤ 160 ∧ 0 ≤ (g24 0 24).toInt ∧ (g24 0 24).toInt ≤ (g24 0 22).toInt ∧ (g24 0 22).toInt ≤ (g24 0 21).toInt ∧ ((g24 0 23).toInt = 3 → (g24 0 24).toInt < (g24 0 22).toInt) := I_g24.2
        try have tx107 : (v1 - r23).toInt = v1.toInt - r23.toInt := i_sub rfl rfl (by omega) (by omega)
        exact sl_X7_added3_5    h0 I_h0  k Q hk n (v1 - r23) g24 I_g24 (ex97.trans (ex87.trans e0)) (ex98.trans (ex88.trans e1)) (ex99.trans (ex89.trans e2)) (ex100.trans (ex90.trans e3)) (ex101.trans (ex91.trans e4)) (by first | trivial | omega) (by omega)
theorem s_X7_added3 (h : dH) (I_h : InvQ h)   : Sf (f_X7_added3  h) (fun o => InvQ o.2 ∧ o.2 0 3 = h 0 3 ∧ o.2 0 4 = h 0 4 ∧ o.2 0 13 = h 0 13 ∧ o.2 0 20 = h 0 20 ∧ o.2 0 21 = h 0 21 ∧ (h 0 24).toInt ≤ (o.2 0 24).toInt) := by
  unfold f_X7_added3
  have pq_h : 0 ≤ (h 0 20).toInt ∧ (h 0 20).toInt ≤ 800 ∧ 0 ≤ (h 0 21).toInt ∧ (h 0 21).toInt ≤ 160 ∧ 0 ≤ (h 0 24).toInt ∧ (h 0 24).toInt ≤ (h 0 22).toInt ∧ (h 0 22).toInt ≤ (h 0 21).toInt ∧ ((h 0 23).toInt = 3 → (h 0 24).toInt < (h 0 22).toInt) := I_h.2
  refine sf_oI (s_X7_term3 h I_h ) (fun r1 g2 pg2 => ?_)
  obtain ⟨I_g2, ex1, ex2, ex3, ex4, ex5, qg2⟩ := pg2
  try simp only at I_g2 ex1 ex2 ex3 ex4 ex5 qg2
  have yx6 := congrArg Int32.toInt ex1
  have yx7 := congrArg Int32.toInt ex2
  have yx8 := congrArg Int32.toInt ex3
  have yx9 := congrArg Int32.toInt ex4
  have yx10 := congrArg Int32.toInt ex5
  have pq_g2 : 0 ≤ (g2 0 20).toInt ∧ (g2 0 20).toInt ≤ 800 ∧ 0 ≤ (g2 0 21).toInt ∧ (g2 0 21).toInt ≤ 160 ∧ 0 ≤ (g2 0 24).toInt ∧ (g2 0 24).toInt ≤ (g2 0 22).toInt ∧ (g2 0 22).toInt ≤ (g2 0 21).toInt ∧ ((g2 0 23).toInt = 3 → (g2 0 24).toInt < (g2 0 22).toInt) := I_g2.2
  have := pq24 I_g2
  refine sl_X7_added3_5   g2 I_g2  _ _ (fun v1_25 g28 I_g28 eg28_0 eg28_1 eg28_2 eg28_3 eg28_4 px108 => ?_)  fuel0 r1 g2 I_g2 rfl rfl rfl rfl rfl (by first | trivial | omega) (by have := fuel0_eq; omega)
  have yx109 := congrArg Int32.toInt eg28_0
  have yx110 := congrArg Int32.toInt eg28_1
  have yx111 := congrArg Int32.toInt eg28_2
  have yx112 := congrArg Int32.toInt eg28_3
  have yx113 := congrArg Int32.toInt eg28_4
  have pq_g28 : 0 ≤ (g28 0 20).toInt ∧ (g28 0 20).toInt ≤ 800 ∧ 0 ≤ (g28 0 21).toInt ∧ (g28 0 21).toInt ≤ 160 ∧ 0 ≤ (g28 0 24).toInt ∧ (g28 0 24).toInt ≤ (g28 0 22).toInt ∧ (g28 0 22).toInt ≤ (g28 0 21).toInt ∧ ((g28 0 23).toInt = 3 → (g28 0 24).toInt < (g28 0 22).toInt) := I_g28.2
  exact sf_some (⟨I_g28, (eg28_0.trans ex1), (eg28_1.trans ex2), (eg28_2.trans ex3), (eg28_3.trans ex4), (eg28_4.trans ex5), (show (h 0 24).toInt ≤ (g28 0 24).toInt by omega)⟩)
theorem s_X7_not3 (h : dH) (I_h : InvQ h)   : Sf (f_X7_not3  h) (fun o => InvQ o.2 ∧ o.2 0 3 = h 0 3 ∧ o.2 0 4 = h 0 4 ∧ o.2 0 13 = h 0 13 ∧ o.2 0 20 = h 0 20 ∧ o.2 0 21 = h 0 21 ∧ (h 0 24).toInt ≤ (o.2 0 24).toInt) := by
  unfold f_X7_not3
  have pq_h : 0 ≤ (h 0 20).toInt ∧ (h 0 20).toInt ≤ 800 ∧ 0 ≤ (h 0 21).toInt ∧ (h 0 21).toInt ≤ 160 ∧ 0 ≤ (h 0 24).toInt ∧ (h 0 24).toInt ≤ (h 0 22).toInt ∧ (h 0 22).toInt ≤ (h 0 21).toInt ∧ ((h 0 23).toInt = 3 → (h 0 24).toInt < (h 0 22).toInt) := I_h.2
  have tx1 : (110 : Int32).toInt = 110 := by decide
  have tx2 : (111 : Int32).toInt = 111 := by decide
  have tx3 : (116 : Int32).toInt = 116 := by decide
  have tx4 : (0 : Int32).toInt = 0 := by decide
  refine sf_oP (s_X7_isWord h I_h (110 : Int32) (111 : Int32) (116 : Int32) (0 : Int32) (0 : Int32) (0 : Int32) (0 : Int32) (0 : Int32)) (fun r1 pr1 => ?_)
  refine sf_ite (fun c2 => ?_) (fun c3 => ?_)
  · skip
    refine sf_oI (s_X7_added3 h I_h ) (fun r4 g5 pg5 => ?_)
    obtain ⟨I_g5, ex5, ex6, ex7, ex8, ex9, qg5⟩ := pg5
    try simp only at I_g5 ex5 ex6 ex7 ex8 ex9 qg5
    have yx10 := congrArg Int32.toInt ex5
    have yx11 := congrArg Int32.toInt ex6
    have yx12 := congrArg Int32.toInt ex7
    have yx13 := congrArg Int32.toInt ex8
    have yx14 := congrArg Int32.toInt ex9
    have pq_g5 : 0 ≤ (g5 0 20).toInt ∧ (g5 0 20).toInt ≤ 800 ∧ 0 ≤ (g5 0 21).toInt ∧ (g5 0 21).toInt ≤ 160 ∧ 0 ≤ (g5 0 24).toInt ∧ (g5 0 24).toInt ≤ (g5 0 22).toInt ∧ (g5 0 22).toInt ≤ (g5 0 21).toInt ∧ ((g5 0 23).toInt = 3 → (g5 0 24).toInt < (g5 0 22).toInt) := I_g5.2
    have tx15 : (60 : Int32).toInt = 60 := by decide
    refine sf_oP (s_X7_isSign g5 I_g5 (60 : Int32)) (fun r6 pr6 => ?_)
    refine sf_ite (fun c7 => ?_) (fun c8 => ?_)
    · skip
      have tx16 : (61 : Int32).toInt = 61 := by decide
      refine sf_oP (s_X7_isSign g5 I_g5 (61 : Int32)) (fun r9 pr9 => ?_)
      refine sf_ite (fun c10 => ?_) (fun c11 => ?_)
      · skip
        exact sf_some (⟨I_g5, ex5, ex6, ex7, ex8, ex9, (show (h 0 24).toInt ≤ (g5 0 24).toInt by omega)⟩)
      · skip
        have tx17 : (g5 0 25).toInt64.toInt = (g5 0 25).toInt := l_i2l
        have tx18 : (60 : Int64).toInt = 60 := by decide
        have tx19 := dlcmp_ok ((g5 0 25).toInt64) 60
        refine sf_ite (fun c12 => ?_) (fun c13 => ?_)
        · skip
          refine sf_oV (s_X7_next g5 I_g5.1 (by omega)) (fun g14 pg14 => ?_)
          obtain ⟨I_g14, ex20, ex21, ex22, ex23, ex24, qg14⟩ := pg14
          try simp only at I_g14 ex20 ex21 ex22 ex23 ex24 qg14
          have yx25 := congrArg Int32.toInt ex20
          have yx26 := congrArg Int32.toInt ex21
          have yx27 := congrArg Int32.toInt ex22
          have yx28 := congrArg Int32.toInt ex23
          have yx29 := congrArg Int32.toInt ex24
          have pq_g14 : 0 ≤ (g14 0 20).toInt ∧ (g14 0 20).toInt ≤ 800 ∧ 0 ≤ (g14 0 21).toInt ∧ (g14 0 21).toInt ≤ 160 ∧ 0 ≤ (g14 0 24).toInt ∧ (g14 0 24).toInt ≤ (g14 0 22).toInt ∧ (g14 0 22).toInt ≤ (g14 0 21).toInt ∧ ((g14 0 23).toInt = 3 → (g14 0 24).toInt < (g14 0 22).toInt) := I_g14.2
          refine sf_oI (s_X7_added3 g14 I_g14 ) (fun r15 g16 pg16 => ?_)
          obtain ⟨I_g16, ex30, ex31, ex32, ex33, ex34, qg16⟩ := pg16
          try simp only at I_g16 ex30 ex31 ex32 ex33 ex34 qg16
          have yx35 := congrArg Int32.toInt ex30
          have yx36 := congrArg Int32.toInt ex31
          have yx37 := congrArg Int32.toInt ex32
          have yx38 := congrArg Int32.toInt ex33
          have yx39 := congrArg Int32.toInt ex34
          have pq_g16 : 0 ≤ (g16 0 20).toInt ∧ (g16 0 20).toInt ≤ 800 ∧ 0 ≤ (g16 0 21).toInt ∧ (g16 0 21).toInt ≤ 160 ∧ 0 ≤ (g16 0 24).toInt ∧ (g16 0 24).toInt ≤ (g16 0 22).toInt ∧ (g16 0 22).toInt ≤ (g16 0 21).toInt ∧ ((g16 0 23).toInt = 3 → (g16 0 24).toInt < (g16 0 22).toInt) := I_g16.2
          refine sf_ite (fun c17 => ?_) (fun c18 => ?_)
          · skip
            have tx40 : (1 : Int32).toInt = 1 := by decide
            exact sf_some (⟨I_g16, (ex30.trans (ex20.trans ex5)), (ex31.trans (ex21.trans ex6)), (ex32.trans (ex22.trans ex7)), (ex33.trans (ex23.trans ex8)), (ex34.trans (ex24.trans ex9)), (show (h 0 24).toInt ≤ (g16 0 24).toInt by omega)⟩)
          · skip
            have tx41 : (0 : Int32).toInt = 0 := by decide
            exact sf_some (⟨I_g16, (ex30.trans (ex20.trans ex5)), (ex31.trans (ex21.trans ex6)), (ex32.trans (ex22.trans ex7)), (ex33.trans (ex23.trans ex8)), (ex34.trans (ex24.trans ex9)), (show (h 0 24).toInt ≤ (g16 0 24).toInt by omega)⟩)
        · skip
          refine sf_oV (s_X7_next g5 I_g5.1 (by omega)) (fun g19 pg19 => ?_)
          obtain ⟨I_g19, ex42, ex43, ex44, ex45, ex46, qg19⟩ := pg19
          try simp only at I_g19 ex42 ex43 ex44 ex45 ex46 qg19
          have yx47 := congrArg Int32.toInt ex42
          have yx48 := congrArg Int32.toInt ex43
          have yx49 := congrArg Int32.toInt ex44
          have yx50 := congrArg Int32.toInt ex45
          have yx51 := congrArg Int32.toInt ex46
          have pq_g19 : 0 ≤ (g19 0 20).toInt ∧ (g19 0 20).toInt ≤ 800 ∧ 0 ≤ (g19 0 21).toInt ∧ (g19 0 21).toInt ≤ 160 ∧ 0 ≤ (g19 0 24).toInt ∧ (g19 0 24).toInt ≤ (g19 0 22).toInt ∧ (g19 0 22).toInt ≤ (g19 0 21).toInt ∧ ((g19 0 23).toInt = 3 → (g19 0 24).toInt < (g19 0 22).toInt) := I_g19.2
          refine sf_oI (s_X7_added3 g19 I_g19 ) (fun r20 g21 pg21 => ?_)
          obtain ⟨I_g21, ex52, ex53, ex54, ex55, ex56, qg21⟩ := pg21
          try simp only at I_g21 ex52 ex53 ex54 ex55 ex56 qg21
          have yx57 := congrArg Int32.toInt ex52
          have yx58 := congrArg Int32.toInt ex53
          have yx59 := congrArg Int32.toInt ex54
          have yx60 := congrArg Int32.toInt ex55
          have yx61 := congrArg Int32.toInt ex56
          have pq_g21 : 0 ≤ (g21 0 20).toInt ∧ (g21 0 20).toInt ≤ 800 ∧ 0 ≤ (g21 0 21).toInt ∧ (g21 0 21).toInt ≤ 160 ∧ 0 ≤ (g21 0 24).toInt ∧ (g21 0 24).toInt ≤ (g21 0 22).toInt ∧ (g21 0 22).toInt ≤ (g21 0 21).toInt ∧ ((g21 0 23).toInt = 3 → (g21 0 24).toInt < (g21 0 22).toInt) := I_g21.2
          refine sf_ite (fun c22 => ?_) (fun c23 => ?_)
          · skip
            have tx62 : (1 : Int32).toInt = 1 := by decide
            exact sf_some (⟨I_g21, (ex52.trans (ex42.trans ex5)), (ex53.trans (ex43.trans ex6)), (ex54.trans (ex44.trans ex7)), (ex55.trans (ex45.trans ex8)), (ex56.trans (ex46.trans ex9)), (show (h 0 24).toInt ≤ (g21 0 24).toInt by omega)⟩)
          · skip
            have tx63 : (0 : Int32).toInt = 0 := by decide
            exact sf_some (⟨I_g21, (ex52.trans (ex42.trans ex5)), (ex53.trans (ex43.trans ex6)), (ex54.trans (ex44.trans ex7)), (ex55.trans (ex45.trans ex8)), (ex56.trans (ex46.trans ex9)), (show (h 0 24).toInt ≤ (g21 0 24).toInt by omega)⟩)
    · skip
      have tx64 : (g5 0 25).toInt64.toInt = (g5 0 25).toInt := l_i2l
      have tx65 : (60 : Int64).toInt = 60 := by decide
      have tx66 := dlcmp_ok ((g5 0 25).toInt64) 60
      refine sf_ite (fun c24 => ?_) (fun c25 => ?_)
      · skip
        refine sf_oV (s_X7_next g5 I_g5.1 (by omega)) (fun g26 pg26 => ?_)
        obtain ⟨I_g26, ex67, ex68, ex69, ex70, ex71, qg26⟩ := pg26
        try simp only at I_g26 ex67 ex68 ex69 ex70 ex71 qg26
        have yx72 := congrArg Int32.toInt ex67
        have yx73 := congrArg Int32.toInt ex68
        have yx74 := congrArg Int32.toInt ex69
        have yx75 := congrArg Int32.toInt ex70
        have yx76 := congrArg Int32.toInt ex71
        have pq_g26 : 0 ≤ (g26 0 20).toInt ∧ (g26 0 20).toInt ≤ 800 ∧ 0 ≤ (g26 0 21).toInt ∧ (g26 0 21).toInt ≤ 160 ∧ 0 ≤ (g26 0 24).toInt ∧ (g26 0 24).toInt ≤ (g26 0 22).toInt ∧ (g26 0 22).toInt ≤ (g26 0 21).toInt ∧ ((g26 0 23).toInt = 3 → (g26 0 24).toInt < (g26 0 22).toInt) := I_g26.2
        refine sf_oI (s_X7_added3 g26 I_g26 ) (fun r27 g28 pg28 => ?_)
        obtain ⟨I_g28, ex77, ex78, ex79, ex80, ex81, qg28⟩ := pg28
        try simp only at I_g28 ex77 ex78 ex79 ex80 ex81 qg28
        have yx82 := congrArg Int32.toInt ex77
        have yx83 := congrArg Int32.toInt ex78
        have yx84 := congrArg Int32.toInt ex79
        have yx85 := congrArg Int32.toInt ex80
        have yx86 := congrArg Int32.toInt ex81
        have pq_g28 : 0 ≤ (g28 0 20).toInt ∧ (g28 0 20).toInt ≤ 800 ∧ 0 ≤ (g28 0 21).toInt ∧ (g28 0 21).toInt ≤ 160 ∧ 0 ≤ (g28 0 24).toInt ∧ (g28 0 24).toInt ≤ (g28 0 22).toInt ∧ (g28 0 22).toInt ≤ (g28 0 21).toInt ∧ ((g28 0 23).toInt = 3 → (g28 0 24).toInt < (g28 0 22).toInt) := I_g28.2
        refine sf_ite (fun c29 => ?_) (fun c30 => ?_)
        · skip
          have tx87 : (1 : Int32).toInt = 1 := by decide
          exact sf_some (⟨I_g28, (ex77.trans (ex67.trans ex5)), (ex78.trans (ex68.trans ex6)), (ex79.trans (ex69.trans ex7)), (ex80.trans (ex70.trans ex8)), (ex81.trans (ex71.trans ex9)), (show (h 0 24).toInt ≤ (g28 0 24).toInt by omega)⟩)
        · skip
          have tx88 : (0 : Int32).toInt = 0 := by decide
          exact sf_some (⟨I_g28, (ex77.trans (ex67.trans ex5)), (ex78.trans (ex68.trans ex6)), (ex79.trans (ex69.trans ex7)), (ex80.trans (ex70.trans ex8)), (ex81.trans (ex71.trans ex9)), (show (h 0 24).toInt ≤ (g28 0 24).toInt by omega)⟩)
      · skip
        refine sf_oV (s_X7_next g5 I_g5.1 (by omega)) (fun g31 pg31 => ?_)
        obtain ⟨I_g31, ex89, ex90, ex91, ex92, ex93, qg31⟩ := pg31
        try simp only at I_g31 ex89 ex90 ex91 ex92 ex93 qg31
        have yx94 := congrArg Int32.toInt ex89
        have yx95 := congrArg Int32.toInt ex90
        have yx96 := congrArg Int32.toInt ex91
        have yx97 := congrArg Int32.toInt ex92
        have yx98 := congrArg Int32.toInt ex93
        have pq_g31 : 0 ≤ (g31 0 20).toInt ∧ (g31 0 20).toInt ≤ 800 ∧ 0 ≤ (g31 0 21).toInt ∧ (g31 0 21).toInt ≤ 160 ∧ 0 ≤ (g31 0 24).toInt ∧ (g31 0 24).toInt ≤ (g31 0 22).toInt ∧ (g31 0 22).toInt ≤ (g31 0 21).toInt ∧ ((g31 0 23).toInt = 3 → (g31 0 24).toInt < (g31 0 22).toInt) := I_g31.2
        refine sf_oI (s_X7_added3 g31 I_g31 ) (fun r32 g33 pg33 => ?_)
        obtain ⟨I_g33, ex99, ex100, ex101, ex102, ex103, qg33⟩ := pg33
        try simp only at I_g33 ex99 ex100 ex101 ex102 ex103 qg33
        have yx104 := congrArg Int32.toInt ex99
        have yx105 := congrArg Int32.toInt ex100
        have yx106 := congrArg Int32.toInt ex101
        have yx107 := congrArg Int32.toInt ex102
        have yx108 := congrArg Int32.toInt ex103
        have pq_g33 : 0 ≤ (g33 0 20).toInt ∧ (g33 0 20).toInt ≤ 800 ∧ 0 ≤ (g33 0 21).toInt ∧ (g33 0 21).toInt ≤ 160 ∧ 0 ≤ (g33 0 24).toInt ∧ (g33 0 24).toInt ≤ (g33 0 22).toInt ∧ (g33 0 22).toInt ≤ (g33 0 21).toInt ∧ ((g33 0 23).toInt = 3 → (g33 0 24).toInt < (g33 0 22).toInt) := I_g33.2
        refine sf_ite (fun c34 => ?_) (fun c35 => ?_)
        · skip
          have tx109 : (1 : Int32).toInt = 1 := by decide
          exact sf_some (⟨I_g33, (ex99.trans (ex89.trans ex5)), (ex100.trans (ex90.trans ex6)), (ex101.trans (ex91.trans ex7)), (ex102.trans (ex92.trans ex8)), (ex103.trans (ex93.trans ex9)), (show (h 0 24).toInt ≤ (g33 0 24).toInt by omega)⟩)
        · skip
          have tx110 : (0 : Int32).toInt = 0 := by decide
          exact sf_some (⟨I_g33, (ex99.trans (ex89.trans ex5)), (ex100.trans (ex90.trans ex6)), (ex101.trans (ex91.trans ex7)), (ex102.trans (ex92.trans ex8)), (ex103.trans (ex93.trans ex9)), (show (h 0 24).toInt ≤ (g33 0 24).toInt by omega)⟩)
  · skip
    refine sf_oI (s_X7_opens h I_h ) (fun r36 g37 pg37 => ?_)
    obtain ⟨I_g37, ex111, ex112, ex113, ex114, ex115, qg37⟩ := pg37
    try simp only at I_g37 ex111 ex112 ex113 ex114 ex115 qg37
    have yx116 := congrArg Int32.toInt ex111
    have yx117 := congrArg Int32.toInt ex112
    have yx118 := congrArg Int32.toInt ex113
    have yx119 := congrArg Int32.toInt ex114
    have yx120 := congrArg Int32.toInt ex115
    have pq_g37 : 0 ≤ (g37 0 20).toInt ∧ (g37 0 20).toInt ≤ 800 ∧ 0 ≤ (g37 0 21).toInt ∧ (g37 0 21).toInt ≤ 160 ∧ 0 ≤ (g37 0 24).toInt ∧ (g37 0 24).toInt ≤ (g37 0 22).toInt ∧ (g37 0 22).toInt ≤ (g37 0 21).toInt ∧ ((g37 0 23).toInt = 3 → (g37 0 24).toInt < (g37 0 22).toInt) := I_g37.2
    refine sf_ite (fun c38 => ?_) (fun c39 => ?_)
    · skip
      have tx121 : (0 : Int32).toInt = 0 := by decide
      exact sf_some (⟨I_g37, ex111, ex112, ex113, ex114, ex115, (show (h 0 24).toInt ≤ (g37 0 24).toInt by omega)⟩)
    · skip
      refine sf_oI (s_X7_not4 g37 I_g37 ) (fun r40 g41 pg41 => ?_)
      obtain ⟨I_g41, ex122, ex123, ex124, ex125, ex126, qg41⟩ := pg41
      try simp only at I_g41 ex122 ex123 ex124 ex125 ex126 qg41
      have yx127 := congrArg Int32.toInt ex122
      have yx128 := congrArg Int32.toInt ex123
      have yx129 := congrArg Int32.toInt ex124
      have yx130 := congrArg Int32.toInt ex125
      have yx131 := congrArg Int32.toInt ex126
      have pq_g41 : 0 ≤ (g41 0 20).toInt ∧ (g41 0 20).toInt ≤ 800 ∧ 0 ≤ (g41 0 21).toInt ∧ (g41 0 21).toInt ≤ 160 ∧ 0 ≤ (g41 0 24).toInt ∧ (g41 0 24).toInt ≤ (g41 0 22).toInt ∧ (g41 0 22).toInt ≤ (g41 0 21).toInt ∧ ((g41 0 23).toInt = 3 → (g41 0 24).toInt < (g41 0 22).toInt) := I_g41.2
      try have tx132 : ((g41 0 26) - 1).toInt = (g41 0 26).toInt - 1 := i_sub rfl (by decide) (by omega) (by omega)
      refine sf_oH (fun g42 hg42 => ?_)
      have I_g42 : InvQ g42 := by rw [hg42]; exact invQ_free I_g41 rfl (by decide)
      have pq_g42 : 0 ≤ (g42 0 20).toInt ∧ (g42 0 20).toInt ≤ 800 ∧ 0 ≤ (g42 0 21).toInt ∧ (g42 0 21).toInt ≤ 160 ∧ 0 ≤ (g42 0 24).toInt ∧ (g42 0 24).toInt ≤ (g42 0 22).toInt ∧ (g42 0 22).toInt ≤ (g42 0 21).toInt ∧ ((g42 0 23).toInt = 3 → (g42 0 24).toInt < (g42 0 22).toInt) := I_g42.2
      have ex133 : g42 0 3 = g41 0 3 := by rw [hg42]; exact dU_ne (by omega)
      have yx134 := congrArg Int32.toInt ex133
      have ex135 : g42 0 4 = g41 0 4 := by rw [hg42]; exact dU_ne (by omega)
      have yx136 := congrArg Int32.toInt ex135
      have ex137 : g42 0 13 = g41 0 13 := by rw [hg42]; exact dU_ne (by omega)
      have yx138 := congrArg Int32.toInt ex137
      have ex139 : g42 0 20 = g41 0 20 := by rw [hg42]; exact dU_ne (by omega)
      have yx140 := congrArg Int32.toInt ex139
      have ex141 : g42 0 21 = g41 0 21 := by rw [hg42]; exact dU_ne (by omega)
      have yx142 := congrArg Int32.toInt ex141
      have ex143 : g42 0 22 = g41 0 22 := by rw [hg42]; exact dU_ne (by omega)
      have yx144 := congrArg Int32.toInt ex143
      have ex145 : g42 0 23 = g41 0 23 := by rw [hg42]; exact dU_ne (by omega)
      have yx146 := congrArg Int32.toInt ex145
      have ex147 : g42 0 24 = g41 0 24 := by rw [hg42]; exact dU_ne (by omega)
      have yx148 := congrArg Int32.toInt ex147
      have yx149 : (g42 0 26).toInt = ((g41 0 26) - 1).toInt := by rw [hg42, dU_eq]
      refine sf_ite (fun c43 => ?_) (fun c44 => ?_)
      · skip
        have tx150 : (1 : Int32).toInt = 1 := by decide
        exact sf_some (⟨I_g42, (ex133.trans (ex122.trans ex111)), (ex135.trans (ex123.trans ex112)), (ex137.trans (ex124.trans ex113)), (ex139.trans (ex125.trans ex114)), (ex141.trans (ex126.trans ex115)), (show (h 0 24).toInt ≤ (g42 0 24).toInt by omega)⟩)
      · skip
        have tx151 : (0 : Int32).toInt = 0 := by decide
        exact sf_some (⟨I_g42, (ex133.trans (ex122.trans ex111)), (ex135.trans (ex123.trans ex112)), (ex137.trans (ex124.trans ex113)), (ex139.trans (ex125.trans ex114)), (ex141.trans (ex126.trans ex115)), (show (h 0 24).toInt ≤ (g42 0 24).toInt by omega)⟩)
theorem sl_X7_both3_5   (h0 : dH) (I_h0 : InvQ h0)  (k : Int32 → dH → Option (Int32 × dH)) (Q : Int32 × dH → Prop) (hk : ∀ (v1 : Int32) (g : dH) (Ig : InvQ g) (e0 : g 0 3 = h0 0 3) (e1 : g 0 4 = h0 0 4) (e2 : g 0 13 = h0 0 13) (e3 : g 0 20 = h0 0 20) (e4 : g 0 21 = h0 0 21), (h0 0 24).toInt ≤ (g 0 24).toInt → Sf (k v1 g) Q)  : ∀ (n : Nat) (v1 : Int32) (h : dH) (I_h : InvQ h) (e0 : h 0 3 = h0 0 3) (e1 : h 0 4 = h0 0 4) (e2 : h 0 13 = h0 0 13) (e3 : h 0 20 = h0 0 20) (e4 : h 0 21 = h0 0 21), (h0 0 24).toInt ≤ (h 0 24).toInt → 160 - (h 0 24).toInt < (n : Int) → Sf (l_X7_both3_5  k n v1 h) Q
  | 0, v1, h, I_h, e0, e1, e2, e3, e4, hi, hm => by have := pq24 I_h; omega
  | n + 1, v1, h, I_h, e0, e1, e2, e3, e4, hi, hm => by
    rw [l_X7_both3_5]
    have pq_h : 0 ≤ (h 0 20).toInt ∧ (h 0 20).toInt ≤ 800 ∧ 0 ≤ (h 0 21).toInt ∧ (h 0 21).toInt ≤ 160 ∧ 0 ≤ (h 0 24).toInt ∧ (h 0 24).toInt ≤ (h 0 22).toInt ∧ (h 0 22).toInt ≤ (h 0 21).toInt ∧ ((h 0 23).toInt = 3 → (h 0 24).toInt < (h 0 22).toInt) := I_h.2
    have yx11 := congrArg Int32.toInt e0
    have yx12 := congrArg Int32.toInt e1
    have yx13 := congrArg Int32.toInt e2
    have yx14 := congrArg Int32.toInt e3
    have yx15 := congrArg Int32.toInt e4
    have tx16 : (97 : Int32).toInt = 97 := by decide
    have tx17 : (110 : Int32).toInt = 110 := by decide
    have tx18 : (100 : Int32).toInt = 100 := by decide
    have tx19 : (0 : Int32).toInt = 0 := by decide
    refine sf_oP (s_X7_isWord h I_h (97 : Int32) (110 : Int32) (100 : Int32) (0 : Int32) (0 : Int32) (0 : Int32) (0 : Int32) (0 : Int32)) (fun r3 pr3 => ?_)
    refine sf_ite (fun c4 => ?_) (fun c5 => ?_)
    · skip
      exact hk v1 h I_h e0 e1 e2 e3 e4 (by first | trivial | omega)
    · skip
      refine sf_oV (s_X7_next h I_h.1 (by omega)) (fun g6 pg6 => ?_)
      obtain ⟨I_g6, ex20, ex21, ex22, ex23, ex24, qg6⟩ := pg6
      try simp only at I_g6 ex20 ex21 ex22 ex23 ex24 qg6
      have yx25 := congrArg Int32.toInt ex20
      have yx26 := congrArg Int32.toInt ex21
      have yx27 := congrArg Int32.toInt ex22
      have yx28 := congrArg Int32.toInt ex23
      have yx29 := congrArg Int32.toInt ex24
      have pq_g6 : 0 ≤ (g6 0 20).toInt ∧ (g6 0 20).toInt ≤ 800 ∧ 0 ≤ (g6 0 21).toInt ∧ (g6 0 21).toInt ≤ 160 ∧ 0 ≤ (g6 0 24).toInt ∧ (g6 0 24).toInt ≤ (g6 0 22).toInt ∧ (g6 0 22).toInt ≤ (g6 0 21).toInt ∧ ((g6 0 23).toInt = 3 → (g6 0 24).toInt < (g6 0 22).toInt) := I_g6.2
      refine sf_oI (s_X7_not3 g6 I_g6 ) (fun r7 g8 pg8 => ?_)
      obtain ⟨I_g8, ex30, ex31, ex32, ex33, ex34, qg8⟩ := pg8
      try simp only at I_g8 ex30 ex31 ex32 ex33 ex34 qg8
      have yx35 := congrArg Int32.toInt ex30
      have yx36 := congrArg Int32.toInt ex31
      have yx37 := congrArg Int32.toInt ex32
      have yx38 := congrArg Int32.toInt ex33
      have yx39 := congrArg Int32.toInt ex34
      have pq_g8 : 0 ≤ (g8 0 20).toInt ∧ (g8 0 20).toInt ≤ 800 ∧ 0 ≤ (g8 0 21).toInt ∧ (g8 0 21).toInt ≤ 160 ∧ 0 ≤ (g8 0 24).toInt ∧ (g8 0 24).toInt ≤ (g8 0 22).toInt ∧ (g8 0 22).toInt ≤ (g8 0 21).toInt ∧ ((g8 0 23).toInt = 3 → (g8 0 24).toInt < (g8 0 22).toInt) := I_g8.2
      refine sf_ite (fun c9 => ?_) (fun c10 => ?_)
      · skip
        exact sl_X7_both3_5    h0 I_h0  k Q hk n (0 : Int32) g8 I_g8 (ex30.trans (ex20.trans e0)) (ex31.trans (ex21.trans e1)) (ex32.trans (ex22.trans e2)) (ex33.trans (ex23.trans e3)) (ex34.trans (ex24.trans e4)) (by first | trivial | omega) (by omega)
      · skip
        refine sf_ite (fun c11 => ?_) (fun c12 => ?_)
        · skip
          exact sl_X7_both3_5    h0 I_h0  k Q hk n (0 : Int32) g8 I_g8 (ex30.trans (ex20.trans e0)) (ex31.trans (ex21.trans e1)) (ex32.trans (ex22.trans e2)) (ex33.trans (ex23.trans e3)) (ex34.trans (ex24.trans e4)) (by first | trivial | omega) (by omega)
        · skip
          have tx40 : (1 : Int32).toInt = 1 := by decide
          exact sl_X7_both3_5    h0 I_h0  k Q hk n (1 : Int32) g8 I_g8 (ex30.trans (ex20.trans e0)) (ex31.trans (ex21.trans e1)) (ex32.trans (ex22.trans e2)) (ex33.trans (ex23.trans e3)) (ex34.trans (ex24.trans e4)) (by first | trivial | omega) (by omega)
theorem s_X7_both3 (h : dH) (I_h : InvQ h)   : Sf (f_X7_both3  h) (fun o => InvQ o.2 ∧ o.2 0 3 = h 0 3 ∧ o.2 0 4 = h 0 4 ∧ o.2 0 13 = h 0 13 ∧ o.2 0 20 = h 0 20 ∧ o.2 0 21 = h 0 21 ∧ (h 0 24).toInt ≤ (o.2 0 24).toInt) := by
  unfold f_X7_both3
  have pq_h : 0 ≤ (h 0 20).toInt ∧ (h 0 20).toInt ≤ 800 ∧ 0 ≤ (h 0 21).toInt ∧ (h 0 21).toInt ≤ 160 ∧ 0 ≤ (h 0 24).toInt ∧ (h 0 24).toInt ≤ (h 0 22).toInt ∧ (h 0 22).toInt ≤ (h 0 21).toInt ∧ ((h 0 23).toInt = 3 → (h 0 24).toInt < (h 0 22).toInt) := I_h.2
  refine sf_oI (s_X7_not3 h I_h ) (fun r1 g2 pg2 => ?_)
  obtain ⟨I_g2, ex1, ex2, ex3, ex4, ex5, qg2⟩ := pg2
  try simp only at I_g2 ex1 ex2 ex3 ex4 ex5 qg2
  have yx6 := congrArg Int32.toInt ex1
  have yx7 := congrArg Int32.toInt ex2
  have yx8 := congrArg Int32.toInt ex3
  have yx9 := congrArg Int32.toInt ex4
  have yx10 := congrArg Int32.toInt ex5
  have pq_g2 : 0 ≤ (g2 0 20).toInt ∧ (g2 0 20).toInt ≤ 800 ∧ 0 ≤ (g2 0 21).toInt ∧ (g2 0 21).toInt ≤ 160 ∧ 0 ≤ (g2 0 24).toInt ∧ (g2 0 24).toInt ≤ (g2 0 22).toInt ∧ (g2 0 22).toInt ≤ (g2 0 21).toInt ∧ ((g2 0 23).toInt = 3 → (g2 0 24).toInt < (g2 0 22).toInt) := I_g2.2
  have := pq24 I_g2
  refine sl_X7_both3_5   g2 I_g2  _ _ (fun v1_13 g15 I_g15 eg15_0 eg15_1 eg15_2 eg15_3 eg15_4 px41 => ?_)  fuel0 r1 g2 I_g2 rfl rfl rfl rfl rfl (by first | trivial | omega) (by have := fuel0_eq; omega)
  have yx42 := congrArg Int32.toInt eg15_0
  have yx43 := congrArg Int32.toInt eg15_1
  have yx44 := congrArg Int32.toInt eg15_2
  have yx45 := congrArg Int32.toInt eg15_3
  have yx46 := congrArg Int32.toInt eg15_4
  have pq_g15 : 0 ≤ (g15 0 20).toInt ∧ (g15 0 20).toInt ≤ 800 ∧ 0 ≤ (g15 0 21).toInt ∧ (g15 0 21).toInt ≤ 160 ∧ 0 ≤ (g15 0 24).toInt ∧ (g15 0 24).toInt ≤ (g15 0 22).toInt ∧ (g15 0 22).toInt ≤ (g15 0 21).toInt ∧ ((g15 0 23).toInt = 3 → (g15 0 24).toInt < (g15 0 22).toInt) := I_g15.2
  exact sf_some (⟨I_g15, (eg15_0.trans ex1), (eg15_1.trans ex2), (eg15_2.trans ex3), (eg15_3.trans ex4), (eg15_4.trans ex5), (show (h 0 24).toInt ≤ (g15 0 24).toInt by omega)⟩)
theorem sl_X7_either3_5   (h0 : dH) (I_h0 : InvQ h0)  (k : Int32 → dH → Option (Int32 × dH)) (Q : Int32 × dH → Prop) (hk : ∀ (v1 : Int32) (g : dH) (Ig : InvQ g) (e0 : g 0 3 = h0 0 3) (e1 : g 0 4 = h0 0 4) (e2 : g 0 13 = h0 0 13) (e3 : g 0 20 = h0 0 20) (e4 : g 0 21 = h0 0 21), (h0 0 24).toInt ≤ (g 0 24).toInt → Sf (k v1 g) Q)  : ∀ (n : Nat) (v1 : Int32) (h : dH) (I_h : InvQ h) (e0 : h 0 3 = h0 0 3) (e1 : h 0 4 = h0 0 4) (e2 : h 0 13 = h0 0 13) (e3 : h 0 20 = h0 0 20) (e4 : h 0 21 = h0 0 21), (h0 0 24).toInt ≤ (h 0 24).toInt → 160 - (h 0 24).toInt < (n : Int) → Sf (l_X7_either3_5  k n v1 h) Q
  | 0, v1, h, I_h, e0, e1, e2, e3, e4, hi, hm => by have := pq24 I_h; omega
  | n + 1, v1, h, I_h, e0, e1, e2, e3, e4, hi, hm => by
    rw [l_X7_either3_5]
    have pq_h : 0 ≤ (h 0 20).toInt ∧ (h 0 20).toInt ≤ 800 ∧ 0 ≤ (h 0 21).toInt ∧ (h 0 21).toInt ≤ 160 ∧ 0 ≤ (h 0 24).toInt ∧ (h 0 24).toInt ≤ (h 0 22).toInt ∧ (h 0 22).toInt ≤ (h 0 21).toInt ∧ ((h 0 23).toInt = 3 → (h 0 24).toInt < (h 0 22).toInt) := I_h.2
    have yx11 := congrArg Int32.toInt e0
    have yx12 := congrArg Int32.toInt e1
    have yx13 := congrArg Int32.toInt e2
    have yx14 := congrArg Int32.toInt e3
    have yx15 := congrArg Int32.toInt e4
    have tx16 : (111 : Int32).toInt = 111 := by decide
    have tx17 : (114 : Int32).toInt = 114 := by decide
    have tx18 : (0 : Int32).toInt = 0 := by decide
    refine sf_oP (s_X7_isWord h I_h (111 : Int32) (114 : Int32) (0 : Int32) (0 : Int32) (0 : Int32) (0 : Int32) (0 : Int32) (0 : Int32)) (fun r3 pr3 => ?_)
    refine sf_ite (fun c4 => ?_) (fun c5 => ?_)
    · skip
      exact hk v1 h I_h e0 e1 e2 e3 e4 (by first | trivial | omega)
    · skip
      refine sf_oV (s_X7_next h I_h.1 (by omega)) (fun g6 pg6 => ?_)
      obtain ⟨I_g6, ex19, ex20, ex21, ex22, ex23, qg6⟩ := pg6
      try simp only at I_g6 ex19 ex20 ex21 ex22 ex23 qg6
      have yx24 := congrArg Int32.toInt ex19
      have yx25 := congrArg Int32.toInt ex20
      have yx26 := congrArg Int32.toInt ex21
      have yx27 := congrArg Int32.toInt ex22
      have yx28 := congrArg Int32.toInt ex23
      have pq_g6 : 0 ≤ (g6 0 20).toInt ∧ (g6 0 20).toInt ≤ 800 ∧ 0 ≤ (g6 0 21).toInt ∧ (g6 0 21).toInt ≤ 160 ∧ 0 ≤ (g6 0 24).toInt ∧ (g6 0 24).toInt ≤ (g6 0 22).toInt ∧ (g6 0 22).toInt ≤ (g6 0 21).toInt ∧ ((g6 0 23).toInt = 3 → (g6 0 24).toInt < (g6 0 22).toInt) := I_g6.2
      refine sf_oI (s_X7_both3 g6 I_g6 ) (fun r7 g8 pg8 => ?_)
      obtain ⟨I_g8, ex29, ex30, ex31, ex32, ex33, qg8⟩ := pg8
      try simp only at I_g8 ex29 ex30 ex31 ex32 ex33 qg8
      have yx34 := congrArg Int32.toInt ex29
      have yx35 := congrArg Int32.toInt ex30
      have yx36 := congrArg Int32.toInt ex31
      have yx37 := congrArg Int32.toInt ex32
      have yx38 := congrArg Int32.toInt ex33
      have pq_g8 : 0 ≤ (g8 0 20).toInt ∧ (g8 0 20).toInt ≤ 800 ∧ 0 ≤ (g8 0 21).toInt ∧ (g8 0 21).toInt ≤ 160 ∧ 0 ≤ (g8 0 24).toInt ∧ (g8 0 24).toInt ≤ (g8 0 22).toInt ∧ (g8 0 22).toInt ≤ (g8 0 21).toInt ∧ ((g8 0 23).toInt = 3 → (g8 0 24).toInt < (g8 0 22).toInt) := I_g8.2
      refine sf_ite (fun c9 => ?_) (fun c10 => ?_)
      · skip
        refine sf_ite (fun c11 => ?_) (fun c12 => ?_)
        · skip
          exact sl_X7_either3_5    h0 I_h0  k Q hk n (0 : Int32) g8 I_g8 (ex29.trans (ex19.trans e0)) (ex30.trans (ex20.trans e1)) (ex31.trans (ex21.trans e2)) (ex32.trans (ex22.trans e3)) (ex33.trans (ex23.trans e4)) (by first | trivial | omega) (by omega)
        · skip
          have tx39 : (1 : Int32).toInt = 1 := by decide
          exact sl_X7_either3_5    h0 I_h0  k Q hk n (1 : Int32) g8 I_g8 (ex29.trans (ex19.trans e0)) (ex30.trans (ex20.trans e1)) (ex31.trans (ex21.trans e2)) (ex32.trans (ex22.trans e3)) (ex33.trans (ex23.trans e4)) (by first | trivial | omega) (by omega)
      · skip
        have tx40 : (1 : Int32).toInt = 1 := by decide
        exact sl_X7_either3_5    h0 I_h0  k Q hk n (1 : Int32) g8 I_g8 (ex29.trans (ex19.trans e0)) (ex30.trans (ex20.trans e1)) (ex31.trans (ex21.trans e2)) (ex32.trans (ex22.trans e3)) (ex33.trans (ex23.trans e4)) (by first | trivial | omega) (by omega)
theorem s_X7_either3 (h : dH) (I_h : InvQ h)   : Sf (f_X7_either3  h) (fun o => InvQ o.2 ∧ o.2 0 3 = h 0 3 ∧ o.2 0 4 = h 0 4 ∧ o.2 0 13 = h 0 13 ∧ o.2 0 20 = h 0 20 ∧ o.2 0 21 = h 0 21 ∧ (h 0 24).toInt ≤ (o.2 0 24).toInt) := by
  unfold f_X7_either3
  have pq_h : 0 ≤ (h 0 20).toInt ∧ (h 0 20).toInt ≤ 800 ∧ 0 ≤ (h 0 21).toInt ∧ (h 0 21).toInt ≤ 160 ∧ 0 ≤ (h 0 24).toInt ∧ (h 0 24).toInt ≤ (h 0 22).toInt ∧ (h 0 22).toInt ≤ (h 0 21).toInt ∧ ((h 0 23).toInt = 3 → (h 0 24).toInt < (h 0 22).toInt) := I_h.2
  refine sf_oI (s_X7_both3 h I_h ) (fun r1 g2 pg2 => ?_)
  obtain ⟨I_g2, ex1, ex2, ex3, ex4, ex5, qg2⟩ := pg2
  try simp only at I_g2 ex1 ex2 ex3 ex4 ex5 qg2
  have yx6 := congrArg Int32.toInt ex1
  have yx7 := congrArg Int32.toInt ex2
  have yx8 := congrArg Int32.toInt ex3
  have yx9 := congrArg Int32.toInt ex4
  have yx10 := congrArg Int32.toInt ex5
  have pq_g2 : 0 ≤ (g2 0 20).toInt ∧ (g2 0 20).toInt ≤ 800 ∧ 0 ≤ (g2 0 21).toInt ∧ (g2 0 21).toInt ≤ 160 ∧ 0 ≤ (g2 0 24).toInt ∧ (g2 0 24).toInt ≤ (g2 0 22).toInt ∧ (g2 0 22).toInt ≤ (g2 0 21).toInt ∧ ((g2 0 23).toInt = 3 → (g2 0 24).toInt < (g2 0 22).toInt) := I_g2.2
  have := pq24 I_g2
  refine sl_X7_either3_5   g2 I_g2  _ _ (fun v1_13 g15 I_g15 eg15_0 eg15_1 eg15_2 eg15_3 eg15_4 px41 => ?_)  fuel0 r1 g2 I_g2 rfl rfl rfl rfl rfl (by first | trivial | omega) (by have := fuel0_eq; omega)
  have yx42 := congrArg Int32.toInt eg15_0
  have yx43 := congrArg Int32.toInt eg15_1
  have yx44 := congrArg Int32.toInt eg15_2
  have yx45 := congrArg Int32.toInt eg15_3
  have yx46 := congrArg Int32.toInt eg15_4
  have pq_g15 : 0 ≤ (g15 0 20).toInt ∧ (g15 0 20).toInt ≤ 800 ∧ 0 ≤ (g15 0 21).toInt ∧ (g15 0 21).toInt ≤ 160 ∧ 0 ≤ (g15 0 24).toInt ∧ (g15 0 24).toInt ≤ (g15 0 22).toInt ∧ (g15 0 22).toInt ≤ (g15 0 21).toInt ∧ ((g15 0 23).toInt = 3 → (g15 0 24).toInt < (g15 0 22).toInt) := I_g15.2
  exact sf_some (⟨I_g15, (eg15_0.trans ex1), (eg15_1.trans ex2), (eg15_2.trans ex3), (eg15_3.trans ex4), (eg15_4.trans ex5), (show (h 0 24).toInt ≤ (g15 0 24).toInt by omega)⟩)
theorem s_X7_atom2 (h : dH) (I_h : InvQ h)   : Sf (f_X7_atom2  h) (fun o => InvQ o.2 ∧ o.2 0 3 = h 0 3 ∧ o.2 0 4 = h 0 4 ∧ o.2 0 13 = h 0 13 ∧ o.2 0 20 = h 0 20 ∧ o.2 0 21 = h 0 21 ∧ (h 0 24).toInt ≤ (o.2 0 24).toInt) := by
  unfold f_X7_atom2
  have pq_h : 0 ≤ (h 0 20).toInt ∧ (h 0 20).toInt ≤ 800 ∧ 0 ≤ (h 0 21).toInt ∧ (h 0 21).toInt ≤ 160 ∧ 0 ≤ (h 0 24).toInt ∧ (h 0 24).toInt ≤ (h 0 22).toInt ∧ (h 0 22).toInt ≤ (h 0 21).toInt ∧ ((h 0 23).toInt = 3 → (h 0 24).toInt < (h 0 22).toInt) := I_h.2
  have tx1 : (45 : Int32).toInt = 45 := by decide
  refine sf_oP (s_X7_isSign h I_h (45 : Int32)) (fun r1 pr1 => ?_)
  refine sf_ite (fun c2 => ?_) (fun c3 => ?_)
  · skip
    have tx2 : (40 : Int32).toInt = 40 := by decide
    refine sf_oP (s_X7_isSign h I_h (40 : Int32)) (fun r4 pr4 => ?_)
    refine sf_ite (fun c5 => ?_) (fun c6 => ?_)
    · skip
      refine sf_ite (fun c7 => ?_) (fun c8 => ?_)
      · skip
        refine sf_ite (fun c9 => ?_) (fun c10 => ?_)
        · skip
          refine sf_oV (s_X7_next h I_h.1 (by omega)) (fun g11 pg11 => ?_)
          obtain ⟨I_g11, ex3, ex4, ex5, ex6, ex7, qg11⟩ := pg11
          try simp only at I_g11 ex3 ex4 ex5 ex6 ex7 qg11
          have yx8 := congrArg Int32.toInt ex3
          have yx9 := congrArg Int32.toInt ex4
          have yx10 := congrArg Int32.toInt ex5
          have yx11 := congrArg Int32.toInt ex6
          have yx12 := congrArg Int32.toInt ex7
          have pq_g11 : 0 ≤ (g11 0 20).toInt ∧ (g11 0 20).toInt ≤ 800 ∧ 0 ≤ (g11 0 21).toInt ∧ (g11 0 21).toInt ≤ 160 ∧ 0 ≤ (g11 0 24).toInt ∧ (g11 0 24).toInt ≤ (g11 0 22).toInt ∧ (g11 0 22).toInt ≤ (g11 0 21).toInt ∧ ((g11 0 23).toInt = 3 → (g11 0 24).toInt < (g11 0 22).toInt) := I_g11.2
          have tx13 : (h 0 25).toInt64.toInt = (h 0 25).toInt := l_i2l
          exact sf_some (⟨I_g11, ex3, ex4, ex5, ex6, ex7, (show (h 0 24).toInt ≤ (g11 0 24).toInt by omega)⟩)
        · skip
          refine sf_ite (fun c12 => ?_) (fun c13 => ?_)
          · skip
            refine sf_ite (fun c14 => ?_) (fun c15 => ?_)
            · skip
              refine sf_oI (s_X7_name h I_h ) (fun r16 g17 pg17 => ?_)
              obtain ⟨I_g17, ex14, ex15, ex16, ex17, ex18, ex19, ex20, ex21, qg17⟩ := pg17
              try simp only at I_g17 ex14 ex15 ex16 ex17 ex18 ex19 ex20 ex21 qg17
              have yx22 := congrArg Int32.toInt ex14
              have yx23 := congrArg Int32.toInt ex15
              have yx24 := congrArg Int32.toInt ex16
              have yx25 := congrArg Int32.toInt ex17
              have yx26 := congrArg Int32.toInt ex18
              have yx27 := congrArg Int32.toInt ex19
              have yx28 := congrArg Int32.toInt ex20
              have yx29 := congrArg Int32.toInt ex21
              have pq_g17 : 0 ≤ (g17 0 20).toInt ∧ (g17 0 20).toInt ≤ 800 ∧ 0 ≤ (g17 0 21).toInt ∧ (g17 0 21).toInt ≤ 160 ∧ 0 ≤ (g17 0 24).toInt ∧ (g17 0 24).toInt ≤ (g17 0 22).toInt ∧ (g17 0 22).toInt ≤ (g17 0 21).toInt ∧ ((g17 0 23).toInt = 3 → (g17 0 24).toInt < (g17 0 22).toInt) := I_g17.2
              refine sf_ite (fun c18 => ?_) (fun c19 => ?_)
              · skip
                refine sf_oV (s_X7_next g17 I_g17.1 (by omega)) (fun g20 pg20 => ?_)
                obtain ⟨I_g20, ex30, ex31, ex32, ex33, ex34, qg20⟩ := pg20
                try simp only at I_g20 ex30 ex31 ex32 ex33 ex34 qg20
                have yx35 := congrArg Int32.toInt ex30
                have yx36 := congrArg Int32.toInt ex31
                have yx37 := congrArg Int32.toInt ex32
                have yx38 := congrArg Int32.toInt ex33
                have yx39 := congrArg Int32.toInt ex34
                have pq_g20 : 0 ≤ (g20 0 20).toInt ∧ (g20 0 20).toInt ≤ 800 ∧ 0 ≤ (g20 0 21).toInt ∧ (g20 0 21).toInt ≤ 160 ∧ 0 ≤ (g20 0 24).toInt ∧ (g20 0 24).toInt ≤ (g20 0 22).toInt ∧ (g20 0 22).toInt ≤ (g20 0 21).toInt ∧ ((g20 0 23).toInt = 3 → (g20 0 24).toInt < (g20 0 22).toInt) := I_g20.2
                exact sf_some (⟨I_g20, (ex30.trans ex14), (ex31.trans ex15), (ex32.trans ex16), (ex33.trans ex17), (ex34.trans ex18), (show (h 0 24).toInt ≤ (g20 0 24).toInt by omega)⟩)
              · skip
                exact sf_some (⟨I_g17, ex14, ex15, ex16, ex17, ex18, (show (h 0 24).toInt ≤ (g17 0 24).toInt by omega)⟩)
            · skip
              refine sf_oV (s_X7_fail h I_h ) (fun g21 pg21 => ?_)
              obtain ⟨I_g21, ex40, ex41, ex42, ex43, ex44, ex45, ex46, ex47, qg21⟩ := pg21
              try simp only at I_g21 ex40 ex41 ex42 ex43 ex44 ex45 ex46 ex47 qg21
              have yx48 := congrArg Int32.toInt ex40
              have yx49 := congrArg Int32.toInt ex41
              have yx50 := congrArg Int32.toInt ex42
              have yx51 := congrArg Int32.toInt ex43
              have yx52 := congrArg Int32.toInt ex44
              have yx53 := congrArg Int32.toInt ex45
              have yx54 := congrArg Int32.toInt ex46
              have yx55 := congrArg Int32.toInt ex47
              have pq_g21 : 0 ≤ (g21 0 20).toInt ∧ (g21 0 20).toInt ≤ 800 ∧ 0 ≤ (g21 0 21).toInt ∧ (g21 0 21).toInt ≤ 160 ∧ 0 ≤ (g21 0 24).toInt ∧ (g21 0 24).toInt ≤ (g21 0 22).toInt ∧ (g21 0 22).toInt ≤ (g21 0 21).toInt ∧ ((g21 0 23).toInt = 3 → (g21 0 24).toInt < (g21 0 22).toInt) := I_g21.2
              have tx56 : (0 : Int32).toInt = 0 := by decide
              exact sf_some (⟨I_g21, ex40, ex41, ex42, ex43, ex44, (show (h 0 24).toInt ≤ (g21 0 24).toInt by omega)⟩)
          · skip
            refine sf_oV (s_X7_fail h I_h ) (fun g22 pg22 => ?_)
            obtain ⟨I_g22, ex57, ex58, ex59, ex60, ex61, ex62, ex63, ex64, qg22⟩ := pg22
            try simp only at I_g22 ex57 ex58 ex59 ex60 ex61 ex62 ex63 ex64 qg22
            have yx65 := congrArg Int32.toInt ex57
            have yx66 := congrArg Int32.toInt ex58
            have yx67 := congrArg Int32.toInt ex59
            have yx68 := congrArg Int32.toInt ex60
            have yx69 := congrArg Int32.toInt ex61
            have yx70 := congrArg Int32.toInt ex62
            have yx71 := congrArg Int32.toInt ex63
            have yx72 := congrArg Int32.toInt ex64
            have pq_g22 : 0 ≤ (g22 0 20).toInt ∧ (g22 0 20).toInt ≤ 800 ∧ 0 ≤ (g22 0 21).toInt ∧ (g22 0 21).toInt ≤ 160 ∧ 0 ≤ (g22 0 24).toInt ∧ (g22 0 24).toInt ≤ (g22 0 22).toInt ∧ (g22 0 22).toInt ≤ (g22 0 21).toInt ∧ ((g22 0 23).toInt = 3 → (g22 0 24).toInt < (g22 0 22).toInt) := I_g22.2
            have tx73 : (0 : Int32).toInt = 0 := by decide
            exact sf_some (⟨I_g22, ex57, ex58, ex59, ex60, ex61, (show (h 0 24).toInt ≤ (g22 0 24).toInt by omega)⟩)
      · skip
        refine sf_ite (fun c23 => ?_) (fun c24 => ?_)
        · skip
          refine sf_ite (fun c25 => ?_) (fun c26 => ?_)
          · skip
            refine sf_oI (s_X7_name h I_h ) (fun r27 g28 pg28 => ?_)
            obtain ⟨I_g28, ex74, ex75, ex76, ex77, ex78, ex79, ex80, ex81, qg28⟩ := pg28
            try simp only at I_g28 ex74 ex75 ex76 ex77 ex78 ex79 ex80 ex81 qg28
            have yx82 := congrArg Int32.toInt ex74
            have yx83 := congrArg Int32.toInt ex75
            have yx84 := congrArg Int32.toInt ex76
            have yx85 := congrArg Int32.toInt ex77
            have yx86 := congrArg Int32.toInt ex78
            have yx87 := congrArg Int32.toInt ex79
            have yx88 := congrArg Int32.toInt ex80
            have yx89 := congrArg Int32.toInt ex81
            have pq_g28 : 0 ≤ (g28 0 20).toInt ∧ (g28 0 20).toInt ≤ 800 ∧ 0 ≤ (g28 0 21).toInt ∧ (g28 0 21).toInt ≤ 160 ∧ 0 ≤ (g28 0 24).toInt ∧ (g28 0 24).toInt ≤ (g28 0 22).toInt ∧ (g28 0 22).toInt ≤ (g28 0 21).toInt ∧ ((g28 0 23).toInt = 3 → (g28 0 24).toInt < (g28 0 22).toInt) := I_g28.2
            refine sf_ite (fun c29 => ?_) (fun c30 => ?_)
            · skip
              refine sf_oV (s_X7_next g28 I_g28.1 (by omega)) (fun g31 pg31 => ?_)
              obtain ⟨I_g31, ex90, ex91, ex92, ex93, ex94, qg31⟩ := pg31
              try simp only at I_g31 ex90 ex91 ex92 ex93 ex94 qg31
              have yx95 := congrArg Int32.toInt ex90
              have yx96 := congrArg Int32.toInt ex91
              have yx97 := congrArg Int32.toInt ex92
              have yx98 := congrArg Int32.toInt ex93
              have yx99 := congrArg Int32.toInt ex94
              have pq_g31 : 0 ≤ (g31 0 20).toInt ∧ (g31 0 20).toInt ≤ 800 ∧ 0 ≤ (g31 0 21).toInt ∧ (g31 0 21).toInt ≤ 160 ∧ 0 ≤ (g31 0 24).toInt ∧ (g31 0 24).toInt ≤ (g31 0 22).toInt ∧ (g31 0 22).toInt ≤ (g31 0 21).toInt ∧ ((g31 0 23).toInt = 3 → (g31 0 24).toInt < (g31 0 22).toInt) := I_g31.2
              exact sf_some (⟨I_g31, (ex90.trans ex74), (ex91.trans ex75), (ex92.trans ex76), (ex93.trans ex77), (ex94.trans ex78), (show (h 0 24).toInt ≤ (g31 0 24).toInt by omega)⟩)
            · skip
              exact sf_some (⟨I_g28, ex74, ex75, ex76, ex77, ex78, (show (h 0 24).toInt ≤ (g28 0 24).toInt by omega)⟩)
          · skip
            refine sf_oV (s_X7_fail h I_h ) (fun g32 pg32 => ?_)
            obtain ⟨I_g32, ex100, ex101, ex102, ex103, ex104, ex105, ex106, ex107, qg32⟩ := pg32
            try simp only at I_g32 ex100 ex101 ex102 ex103 ex104 ex105 ex106 ex107 qg32
            have yx108 := congrArg Int32.toInt ex100
            have yx109 := congrArg Int32.toInt ex101
            have yx110 := congrArg Int32.toInt ex102
            have yx111 := congrArg Int32.toInt ex103
            have yx112 := congrArg Int32.toInt ex104
            have yx113 := congrArg Int32.toInt ex105
            have yx114 := congrArg Int32.toInt ex106
            have yx115 := congrArg Int32.toInt ex107
            have pq_g32 : 0 ≤ (g32 0 20).toInt ∧ (g32 0 20).toInt ≤ 800 ∧ 0 ≤ (g32 0 21).toInt ∧ (g32 0 21).toInt ≤ 160 ∧ 0 ≤ (g32 0 24).toInt ∧ (g32 0 24).toInt ≤ (g32 0 22).toInt ∧ (g32 0 22).toInt ≤ (g32 0 21).toInt ∧ ((g32 0 23).toInt = 3 → (g32 0 24).toInt < (g32 0 22).toInt) := I_g32.2
            have tx116 : (0 : Int32).toInt = 0 := by decide
            exact sf_some (⟨I_g32, ex100, ex101, ex102, ex103, ex104, (show (h 0 24).toInt ≤ (g32 0 24).toInt by omega)⟩)
        · skip
          refine sf_oV (s_X7_fail h I_h ) (fun g33 pg33 => ?_)
          obtain ⟨I_g33, ex117, ex118, ex119, ex120, ex121, ex122, ex123, ex124, qg33⟩ := pg33
          try simp only at I_g33 ex117 ex118 ex119 ex120 ex121 ex122 ex123 ex124 qg33
          have yx125 := congrArg Int32.toInt ex117
          have yx126 := congrArg Int32.toInt ex118
          have yx127 := congrArg Int32.toInt ex119
          have yx128 := congrArg Int32.toInt ex120
          have yx129 := congrArg Int32.toInt ex121
          have yx130 := congrArg Int32.toInt ex122
          have yx131 := congrArg Int32.toInt ex123
          have yx132 := congrArg Int32.toInt ex124
          have pq_g33 : 0 ≤ (g33 0 20).toInt ∧ (g33 0 20).toInt ≤ 800 ∧ 0 ≤ (g33 0 21).toInt ∧ (g33 0 21).toInt ≤ 160 ∧ 0 ≤ (g33 0 24).toInt ∧ (g33 0 24).toInt ≤ (g33 0 22).toInt ∧ (g33 0 22).toInt ≤ (g33 0 21).toInt ∧ ((g33 0 23).toInt = 3 → (g33 0 24).toInt < (g33 0 22).toInt) := I_g33.2
          have tx133 : (0 : Int32).toInt = 0 := by decide
          exact sf_some (⟨I_g33, ex117, ex118, ex119, ex120, ex121, (show (h 0 24).toInt ≤ (g33 0 24).toInt by omega)⟩)
    · skip
      refine sf_oI (s_X7_opens h I_h ) (fun r34 g35 pg35 => ?_)
      obtain ⟨I_g35, ex134, ex135, ex136, ex137, ex138, qg35⟩ := pg35
      try simp only at I_g35 ex134 ex135 ex136 ex137 ex138 qg35
      have yx139 := congrArg Int32.toInt ex134
      have yx140 := congrArg Int32.toInt ex135
      have yx141 := congrArg Int32.toInt ex136
      have yx142 := congrArg Int32.toInt ex137
      have yx143 := congrArg Int32.toInt ex138
      have pq_g35 : 0 ≤ (g35 0 20).toInt ∧ (g35 0 20).toInt ≤ 800 ∧ 0 ≤ (g35 0 21).toInt ∧ (g35 0 21).toInt ≤ 160 ∧ 0 ≤ (g35 0 24).toInt ∧ (g35 0 24).toInt ≤ (g35 0 22).toInt ∧ (g35 0 22).toInt ≤ (g35 0 21).toInt ∧ ((g35 0 23).toInt = 3 → (g35 0 24).toInt < (g35 0 22).toInt) := I_g35.2
      refine sf_ite (fun c36 => ?_) (fun c37 => ?_)
      · skip
        have tx144 : (0 : Int32).toInt = 0 := by decide
        exact sf_some (⟨I_g35, ex134, ex135, ex136, ex137, ex138, (show (h 0 24).toInt ≤ (g35 0 24).toInt by omega)⟩)
      · skip
        refine sf_oI (s_X7_either3 g35 I_g35 ) (fun r38 g39 pg39 => ?_)
        obtain ⟨I_g39, ex145, ex146, ex147, ex148, ex149, qg39⟩ := pg39
        try simp only at I_g39 ex145 ex146 ex147 ex148 ex149 qg39
        have yx150 := congrArg Int32.toInt ex145
        have yx151 := congrArg Int32.toInt ex146
        have yx152 := congrArg Int32.toInt ex147
        have yx153 := congrArg Int32.toInt ex148
        have yx154 := congrArg Int32.toInt ex149
        have pq_g39 : 0 ≤ (g39 0 20).toInt ∧ (g39 0 20).toInt ≤ 800 ∧ 0 ≤ (g39 0 21).toInt ∧ (g39 0 21).toInt ≤ 160 ∧ 0 ≤ (g39 0 24).toInt ∧ (g39 0 24).toInt ≤ (g39 0 22).toInt ∧ (g39 0 22).toInt ≤ (g39 0 21).toInt ∧ ((g39 0 23).toInt = 3 → (g39 0 24).toInt < (g39 0 22).toInt) := I_g39.2
        have tx155 : (41 : Int32).toInt = 41 := by decide
        refine sf_oP (s_X7_isSign g39 I_g39 (41 : Int32)) (fun r40 pr40 => ?_)
        refine sf_ite (fun c41 => ?_) (fun c42 => ?_)
        · skip
          refine sf_oV (s_X7_fail g39 I_g39 ) (fun g43 pg43 => ?_)
          obtain ⟨I_g43, ex156, ex157, ex158, ex159, ex160, ex161, ex162, ex163, qg43⟩ := pg43
          try simp only at I_g43 ex156 ex157 ex158 ex159 ex160 ex161 ex162 ex163 qg43
          have yx164 := congrArg Int32.toInt ex156
          have yx165 := congrArg Int32.toInt ex157
          have yx166 := congrArg Int32.toInt ex158
          have yx167 := congrArg Int32.toInt ex159
          have yx168 := congrArg Int32.toInt ex160
          have yx169 := congrArg Int32.toInt ex161
          have yx170 := congrArg Int32.toInt ex162
          have yx171 := congrArg Int32.toInt ex163
          have pq_g43 : 0 ≤ (g43 0 20).toInt ∧ (g43 0 20).toInt ≤ 800 ∧ 0 ≤ (g43 0 21).toInt ∧ (g43 0 21).toInt ≤ 160 ∧ 0 ≤ (g43 0 24).toInt ∧ (g43 0 24).toInt ≤ (g43 0 22).toInt ∧ (g43 0 22).toInt ≤ (g43 0 21).toInt ∧ ((g43 0 23).toInt = 3 → (g43 0 24).toInt < (g43 0 22).toInt) := I_g43.2
          try have tx172 : ((g43 0 26) - 1).toInt = (g43 0 26).toInt - 1 := i_sub rfl (by decide) (by omega) (by omega)
          refine sf_oH (fun g44 hg44 => ?_)
          have I_g44 : InvQ g44 := by rw [hg44]; exact invQ_free I_g43 rfl (by decide)
          have pq_g44 : 0 ≤ (g44 0 20).toInt ∧ (g44 0 20).toInt ≤ 800 ∧ 0 ≤ (g44 0 21).toInt ∧ (g44 0 21).toInt ≤ 160 ∧ 0 ≤ (g44 0 24).toInt ∧ (g44 0 24).toInt ≤ (g44 0 22).toInt ∧ (g44 0 22).toInt ≤ (g44 0 21).toInt ∧ ((g44 0 23).toInt = 3 → (g44 0 24).toInt < (g44 0 22).toInt) := I_g44.2
          have ex173 : g44 0 3 = g43 0 3 := by rw [hg44]; exact dU_ne (by omega)
          have yx174 := congrArg Int32.toInt ex173
          have ex175 : g44 0 4 = g43 0 4 := by rw [hg44]; exact dU_ne (by omega)
          have yx176 := congrArg Int32.toInt ex175
          have ex177 : g44 0 13 = g43 0 13 := by rw [hg44]; exact dU_ne (by omega)
          have yx178 := congrArg Int32.toInt ex177
          have ex179 : g44 0 20 = g43 0 20 := by rw [hg44]; exact dU_ne (by omega)
          have yx180 := congrArg Int32.toInt ex179
          have ex181 : g44 0 21 = g43 0 21 := by rw [hg44]; exact dU_ne (by omega)
          have yx182 := congrArg Int32.toInt ex181
          have ex183 : g44 0 22 = g43 0 22 := by rw [hg44]; exact dU_ne (by omega)
          have yx184 := congrArg Int32.toInt ex183
          have ex185 : g44 0 23 = g43 0 23 := by rw [hg44]; exact dU_ne (by omega)
          have yx186 := congrArg Int32.toInt ex185
          have ex187 : g44 0 24 = g43 0 24 := by rw [hg44]; exact dU_ne (by omega)
          have yx188 := congrArg Int32.toInt ex187
          have yx189 : (g44 0 26).toInt = ((g43 0 26) - 1).toInt := by rw [hg44, dU_eq]
          refine sf_ite (fun c45 => ?_) (fun c46 => ?_)
          · skip
            refine sf_oV (s_X7_next g44 I_g44.1 (by omega)) (fun g47 pg47 => ?_)
            obtain ⟨I_g47, ex190, ex191, ex192, ex193, ex194, qg47⟩ := pg47
            try simp only at I_g47 ex190 ex191 ex192 ex193 ex194 qg47
            have yx195 := congrArg Int32.toInt ex190
            have yx196 := congrArg Int32.toInt ex191
            have yx197 := congrArg Int32.toInt ex192
            have yx198 := congrArg Int32.toInt ex193
            have yx199 := congrArg Int32.toInt ex194
            have pq_g47 : 0 ≤ (g47 0 20).toInt ∧ (g47 0 20).toInt ≤ 800 ∧ 0 ≤ (g47 0 21).toInt ∧ (g47 0 21).toInt ≤ 160 ∧ 0 ≤ (g47 0 24).toInt ∧ (g47 0 24).toInt ≤ (g47 0 22).toInt ∧ (g47 0 22).toInt ≤ (g47 0 21).toInt ∧ ((g47 0 23).toInt = 3 → (g47 0 24).toInt < (g47 0 22).toInt) := I_g47.2
            exact sf_some (⟨I_g47, (ex190.trans (ex173.trans (ex156.trans (ex145.trans ex134)))), (ex191.trans (ex175.trans (ex157.trans (ex146.trans ex135)))), (ex192.trans (ex177.trans (ex158.trans (ex147.trans ex136)))), (ex193.trans (ex179.trans (ex159.trans (ex148.trans ex137)))), (ex194.trans (ex181.trans (ex160.trans (ex149.trans ex138)))), (show (h 0 24).toInt ≤ (g47 0 24).toInt by omega)⟩)
          · skip
            exact sf_some (⟨I_g44, (ex173.trans (ex156.trans (ex145.trans ex134))), (ex175.trans (ex157.trans (ex146.trans ex135))), (ex177.trans (ex158.trans (ex147.trans ex136))), (ex179.trans (ex159.trans (ex148.trans ex137))), (ex181.trans (ex160.trans (ex149.trans ex138))), (show (h 0 24).toInt ≤ (g44 0 24).toInt by omega)⟩)
        · skip
          try have tx200 : ((g39 0 26) - 1).toInt = (g39 0 26).toInt - 1 := i_sub rfl (by decide) (by omega) (by omega)
          refine sf_oH (fun g48 hg48 => ?_)
          have I_g48 : InvQ g48 := by rw [hg48]; exact invQ_free I_g39 rfl (by decide)
          have pq_g48 : 0 ≤ (g48 0 20).toInt ∧ (g48 0 20).toInt ≤ 800 ∧ 0 ≤ (g48 0 21).toInt ∧ (g48 0 21).toInt ≤ 160 ∧ 0 ≤ (g48 0 24).toInt ∧ (g48 0 24).toInt ≤ (g48 0 22).toInt ∧ (g48 0 22).toInt ≤ (g48 0 21).toInt ∧ ((g48 0 23).toInt = 3 → (g48 0 24).toInt < (g48 0 22).toInt) := I_g48.2
          have ex201 : g48 0 3 = g39 0 3 := by rw [hg48]; exact dU_ne (by omega)
          have yx202 := congrArg Int32.toInt ex201
          have ex203 : g48 0 4 = g39 0 4 := by rw [hg48]; exact dU_ne (by omega)
          have yx204 := congrArg Int32.toInt ex203
          have ex205 : g48 0 13 = g39 0 13 := by rw [hg48]; exact dU_ne (by omega)
          have yx206 := congrArg Int32.toInt ex205
          have ex207 : g48 0 20 = g39 0 20 := by rw [hg48]; exact dU_ne (by omega)
          have yx208 := congrArg Int32.toInt ex207
          have ex209 : g48 0 21 = g39 0 21 := by rw [hg48]; exact dU_ne (by omega)
          have yx210 := congrArg Int32.toInt ex209
          have ex211 : g48 0 22 = g39 0 22 := by rw [hg48]; exact dU_ne (by omega)
          have yx212 := congrArg Int32.toInt ex211
          have ex213 : g48 0 23 = g39 0 23 := by rw [hg48]; exact dU_ne (by omega)
          have yx214 := congrArg Int32.toInt ex213
          have ex215 : g48 0 24 = g39 0 24 := by rw [hg48]; exact dU_ne (by omega)
          have yx216 := congrArg Int32.toInt ex215
          have yx217 : (g48 0 26).toInt = ((g39 0 26) - 1).toInt := by rw [hg48, dU_eq]
          refine sf_ite (fun c49 => ?_) (fun c50 => ?_)
          · skip
            refine sf_oV (s_X7_next g48 I_g48.1 (by omega)) (fun g51 pg51 => ?_)
            obtain ⟨I_g51, ex218, ex219, ex220, ex221, ex222, qg51⟩ := pg51
            try simp only at I_g51 ex218 ex219 ex220 ex221 ex222 qg51
            have yx223 := congrArg Int32.toInt ex218
            have yx224 := congrArg Int32.toInt ex219
            have yx225 := congrArg Int32.toInt ex220
            have yx226 := congrArg Int32.toInt ex221
            have yx227 := congrArg Int32.toInt ex222
            have pq_g51 : 0 ≤ (g51 0 20).toInt ∧ (g51 0 20).toInt ≤ 800 ∧ 0 ≤ (g51 0 21).toInt ∧ (g51 0 21).toInt ≤ 160 ∧ 0 ≤ (g51 0 24).toInt ∧ (g51 0 24).toInt ≤ (g51 0 22).toInt ∧ (g51 0 22).toInt ≤ (g51 0 21).toInt ∧ ((g51 0 23).toInt = 3 → (g51 0 24).toInt < (g51 0 22).toInt) := I_g51.2
            exact sf_some (⟨I_g51, (ex218.trans (ex201.trans (ex145.trans ex134))), (ex219.trans (ex203.trans (ex146.trans ex135))), (ex220.trans (ex205.trans (ex147.trans ex136))), (ex221.trans (ex207.trans (ex148.trans ex137))), (ex222.trans (ex209.trans (ex149.trans ex138))), (show (h 0 24).toInt ≤ (g51 0 24).toInt by omega)⟩)
          · skip
            exact sf_some (⟨I_g48, (ex201.trans (ex145.trans ex134)), (ex203.trans (ex146.trans ex135)), (ex205.trans (ex147.trans ex136)), (ex207.trans (ex148.trans ex137)), (ex209.trans (ex149.trans ex138)), (show (h 0 24).toInt ≤ (g48 0 24).toInt by omega)⟩)
  · skip
    refine sf_oI (s_X7_opens h I_h ) (fun r52 g53 pg53 => ?_)
    obtain ⟨I_g53, ex228, ex229, ex230, ex231, ex232, qg53⟩ := pg53
    try simp only at I_g53 ex228 ex229 ex230 ex231 ex232 qg53
    have yx233 := congrArg Int32.toInt ex228
    have yx234 := congrArg Int32.toInt ex229
    have yx235 := congrArg Int32.toInt ex230
    have yx236 := congrArg Int32.toInt ex231
    have yx237 := congrArg Int32.toInt ex232
    have pq_g53 : 0 ≤ (g53 0 20).toInt ∧ (g53 0 20).toInt ≤ 800 ∧ 0 ≤ (g53 0 21).toInt ∧ (g53 0 21).toInt ≤ 160 ∧ 0 ≤ (g53 0 24).toInt ∧ (g53 0 24).toInt ≤ (g53 0 22).toInt ∧ (g53 0 22).toInt ≤ (g53 0 21).toInt ∧ ((g53 0 23).toInt = 3 → (g53 0 24).toInt < (g53 0 22).toInt) := I_g53.2
    refine sf_ite (fun c54 => ?_) (fun c55 => ?_)
    · skip
      have tx238 : (0 : Int32).toInt = 0 := by decide
      exact sf_some (⟨I_g53, ex228, ex229, ex230, ex231, ex232, (show (h 0 24).toInt ≤ (g53 0 24).toInt by omega)⟩)
    · skip
      refine sf_oI (s_X7_atom3 g53 I_g53 ) (fun r56 g57 pg57 => ?_)
      obtain ⟨I_g57, ex239, ex240, ex241, ex242, ex243, qg57⟩ := pg57
      try simp only at I_g57 ex239 ex240 ex241 ex242 ex243 qg57
      have yx244 := congrArg Int32.toInt ex239
      have yx245 := congrArg Int32.toInt ex240
      have yx246 := congrArg Int32.toInt ex241
      have yx247 := congrArg Int32.toInt ex242
      have yx248 := congrArg Int32.toInt ex243
      have pq_g57 : 0 ≤ (g57 0 20).toInt ∧ (g57 0 20).toInt ≤ 800 ∧ 0 ≤ (g57 0 21).toInt ∧ (g57 0 21).toInt ≤ 160 ∧ 0 ≤ (g57 0 24).toInt ∧ (g57 0 24).toInt ≤ (g57 0 22).toInt ∧ (g57 0 22).toInt ≤ (g57 0 21).toInt ∧ ((g57 0 23).toInt = 3 → (g57 0 24).toInt < (g57 0 22).toInt) := I_g57.2
      try have tx249 : ((g57 0 26) - 1).toInt = (g57 0 26).toInt - 1 := i_sub rfl (by decide) (by omega) (by omega)
      refine sf_oH (fun g58 hg58 => ?_)
      have I_g58 : InvQ g58 := by rw [hg58]; exact invQ_free I_g57 rfl (by decide)
      have pq_g58 : 0 ≤ (g58 0 20).toInt ∧ (g58 0 20).toInt ≤ 800 ∧ 0 ≤ (g58 0 21).toInt ∧ (g58 0 21).toInt ≤ 160 ∧ 0 ≤ (g58 0 24).toInt ∧ (g58 0 24).toInt ≤ (g58 0 22).toInt ∧ (g58 0 22).toInt ≤ (g58 0 21).toInt ∧ ((g58 0 23).toInt = 3 → (g58 0 24).toInt < (g58 0 22).toInt) := I_g58.2
      have ex250 : g58 0 3 = g57 0 3 := by rw [hg58]; exact dU_ne (by omega)
      have yx251 := congrArg Int32.toInt ex250
      have ex252 : g58 0 4 = g57 0 4 := by rw [hg58]; exact dU_ne (by omega)
      have yx253 := congrArg Int32.toInt ex252
      have ex254 : g58 0 13 = g57 0 13 := by rw [hg58]; exact dU_ne (by omega)
      have yx255 := congrArg Int32.toInt ex254
      have ex256 : g58 0 20 = g57 0 20 := by rw [hg58]; exact dU_ne (by omega)
      have yx257 := congrArg Int32.toInt ex256
      have ex258 : g58 0 21 = g57 0 21 := by rw [hg58]; exact dU_ne (by omega)
      have yx259 := congrArg Int32.toInt ex258
      have ex260 : g58 0 22 = g57 0 22 := by rw [hg58]; exact dU_ne (by omega)
      have yx261 := congrArg Int32.toInt ex260
      have ex262 : g58 0 23 = g57 0 23 := by rw [hg58]; exact dU_ne (by omega)
      have yx263 := congrArg Int32.toInt ex262
      have ex264 : g58 0 24 = g57 0 24 := by rw [hg58]; exact dU_ne (by omega)
      have yx265 := congrArg Int32.toInt ex264
      have yx266 : (g58 0 26).toInt = ((g57 0 26) - 1).toInt := by rw [hg58, dU_eq]
      exact sf_some (⟨I_g58, (ex250.trans (ex239.trans ex228)), (ex252.trans (ex240.trans ex229)), (ex254.trans (ex241.trans ex230)), (ex256.trans (ex242.trans ex231)), (ex258.trans (ex243.trans ex232)), (show (h 0 24).toInt ≤ (g58 0 24).toInt by omega)⟩)
theorem sl_X7_term2_5   (h0 : dH) (I_h0 : InvQ h0)  (k : Int32 → dH → Option (Int32 × dH)) (Q : Int32 × dH → Prop) (hk : ∀ (v1 : Int32) (g : dH) (Ig : InvQ g) (e0 : g 0 3 = h0 0 3) (e1 : g 0 4 = h0 0 4) (e2 : g 0 13 = h0 0 13) (e3 : g 0 20 = h0 0 20) (e4 : g 0 21 = h0 0 21), (h0 0 24).toInt ≤ (g 0 24).toInt → Sf (k v1 g) Q)  : ∀ (n : Nat) (v1 : Int32) (h : dH) (I_h : InvQ h) (e0 : h 0 3 = h0 0 3) (e1 : h 0 4 = h0 0 4) (e2 : h 0 13 = h0 0 13) (e3 : h 0 20 = h0 0 20) (e4 : h 0 21 = h0 0 21), (h0 0 24).toInt ≤ (h 0 24).toInt → 160 - (h 0 24).toInt < (n : Int) → Sf (l_X7_term2_5  k n v1 h) Q
  | 0, v1, h, I_h, e0, e1, e2, e3, e4, hi, hm => by have := pq24 I_h; omega
  | n + 1, v1, h, I_h, e0, e1, e2, e3, e4, hi, hm => by
    rw [l_X7_term2_5]
    have pq_h : 0 ≤ (h 0 20).toInt ∧ (h 0 20).toInt ≤ 800 ∧ 0 ≤ (h 0 21).toInt ∧ (h 0 21).toInt ≤ 160 ∧ 0 ≤ (h 0 24).toInt ∧ (h 0 24).toInt ≤ (h 0 22).toInt ∧ (h 0 22).toInt ≤ (h 0 21).toInt ∧ ((h 0 23).toInt = 3 → (h 0 24).toInt < (h 0 22).toInt) := I_h.2
    have yx11 := congrArg Int32.toInt e0
    have yx12 := congrArg Int32.toInt e1
    have yx13 := congrArg Int32.toInt e2
    have yx14 := congrArg Int32.toInt e3
    have yx15 := congrArg Int32.toInt e4
    have tx16 : (42 : Int32).toInt = 42 := by decide
    refine sf_oP (s_X7_isSign h I_h (42 : Int32)) (fun r3 pr3 => ?_)
    refine sf_ite (fun c4 => ?_) (fun c5 => ?_)
    · skip
      exact hk v1 h I_h e0 e1 e2 e3 e4 (by first | trivial | omega)
    · skip
      refine sf_oV (s_X7_next h I_h.1 (by omega)) (fun g6 pg6 => ?_)
      obtain ⟨I_g6, ex17, ex18, ex19, ex20, ex21, qg6⟩ := pg6
      try simp only at I_g6 ex17 ex18 ex19 ex20 ex21 qg6
      have yx22 := congrArg Int32.toInt ex17
      have yx23 := congrArg Int32.toInt ex18
      have yx24 := congrArg Int32.toInt ex19
      have yx25 := congrArg Int32.toInt ex20
      have yx26 := congrArg Int32.toInt ex21
      have pq_g6 : 0 ≤ (g6 0 20).toInt ∧ (g6 0 20).toInt ≤ 800 ∧ 0 ≤ (g6 0 21).toInt ∧ (g6 0 21).toInt ≤ 160 ∧ 0 ≤ (g6 0 24).toInt ∧ (g6 0 24).toInt ≤ (g6 0 22).toInt ∧ (g6 0 22).toInt ≤ (g6 0 21).toInt ∧ ((g6 0 23).toInt = 3 → (g6 0 24).toInt < (g6 0 22).toInt) := I_g6.2
      refine sf_oI (s_X7_atom2 g6 I_g6 ) (fun r7 g8 pg8 => ?_)
      obtain ⟨I_g8, ex27, ex28, ex29, ex30, ex31, qg8⟩ := pg8
      try simp only at I_g8 ex27 ex28 ex29 ex30 ex31 qg8
      have yx32 := congrArg Int32.toInt ex27
      have yx33 := congrArg Int32.toInt ex28
      have yx34 := congrArg Int32.toInt ex29
      have yx35 := congrArg Int32.toInt ex30
      have yx36 := congrArg Int32.toInt ex31
      have pq_g8 : 0 ≤ (g8 0 20).toInt ∧ (g8 0 20).toInt ≤ 800 ∧ 0 ≤ (g8 0 21).toInt ∧ (g8 0 21).toInt ≤ 160 ∧ 0 ≤ (g8 0 24).toInt ∧ (g8 0 24).toInt ≤ (g8 0 22).toInt ∧ (g8 0 22).toInt ≤ (g8 0 21).toInt ∧ ((g8 0 23).toInt = 3 → (g8 0 24).toInt < (g8 0 22).toInt) := I_g8.2
      try have tx37 : (v1 * r7).toInt = v1.toInt * r7.toInt := i_mul rfl rfl (by omega) (by omega)
      exact sl_X7_term2_5    h0 I_h0  k Q hk n (v1 * r7) g8 I_g8 (ex27.trans (ex17.trans e0)) (ex28.trans (ex18.trans e1)) (ex29.trans (ex19.trans e2)) (ex30.trans (ex20.trans e3)) (ex31.trans (ex21.trans e4)) (by first | trivial | omega) (by omega)
theorem s_X7_term2 (h : dH) (I_h : InvQ h)   : Sf (f_X7_term2  h) (fun o => InvQ o.2 ∧ o.2 0 3 = h 0 3 ∧ o.2 0 4 = h 0 4 ∧ o.2 0 13 = h 0 13 ∧ o.2 0 20 = h 0 20 ∧ o.2 0 21 = h 0 21 ∧ (h 0 24).toInt ≤ (o.2 0 24).toInt) := by
  unfold f_X7_term2
  have pq_h : 0 ≤ (h 0 20).toInt ∧ (h 0 20).toInt ≤ 800 ∧ 0 ≤ (h 0 21).toInt ∧ (h 0 21).toInt ≤ 160 ∧ 0 ≤ (h 0 24).toInt ∧ (h 0 24).toInt ≤ (h 0 22).toInt ∧ (h 0 22).toInt ≤ (h 0 21).toInt ∧ ((h 0 23).toInt = 3 → (h 0 24).toInt < (h 0 22).toInt) := I_h.2
  refine sf_oI (s_X7_atom2 h I_h ) (fun r1 g2 pg2 => ?_)
  obtain ⟨I_g2, ex1, ex2, ex3, ex4, ex5, qg2⟩ := pg2
  try simp only at I_g2 ex1 ex2 ex3 ex4 ex5 qg2
  have yx6 := congrArg Int32.toInt ex1
  have yx7 := congrArg Int32.toInt ex2
  have yx8 := congrArg Int32.toInt ex3
  have yx9 := congrArg Int32.toInt ex4
  have yx10 := congrArg Int32.toInt ex5
  have pq_g2 : 0 ≤ (g2 0 20).toInt ∧ (g2 0 20).toInt ≤ 800 ∧ 0 ≤ (g2 0 21).toInt ∧ (g2 0 21).toInt ≤ 160 ∧ 0 ≤ (g2 0 24).toInt ∧ (g2 0 24).toInt ≤ (g2 0 22).toInt ∧ (g2 0 22).toInt ≤ (g2 0 21).toInt ∧ ((g2 0 23).toInt = 3 → (g2 0 24).toInt < (g2 0 22).toInt) := I_g2.2
  have := pq24 I_g2
  refine sl_X7_term2_5   g2 I_g2  _ _ (fun v1_9 g10 I_g10 eg10_0 eg10_1 eg10_2 eg10_3 eg10_4 px38 => ?_)  fuel0 r1 g2 I_g2 rfl rfl rfl rfl rfl (by first | trivial | omega) (by have := fuel0_eq; omega)
  have yx39 := congrArg Int32.toInt eg10_0
  have yx40 := congrArg Int32.toInt eg10_1
  have yx41 := congrArg Int32.toInt eg10_2
  have yx42 := congrArg Int32.toInt eg10_3
  have yx43 := congrArg Int32.toInt eg10_4
  have pq_g10 : 0 ≤ (g10 0 20).toInt ∧ (g10 0 20).toInt ≤ 800 ∧ 0 ≤ (g10 0 21).toInt ∧ (g10 0 21).toInt ≤ 160 ∧ 0 ≤ (g10 0 24).toInt ∧ (g10 0 24).toInt ≤ (g10 0 22).toInt ∧ (g10 0 22).toInt ≤ (g10 0 21).toInt ∧ ((g10 0 23).toInt = 3 → (g10 0 24).toInt < (g10 0 22).toInt) := I_g10.2
  exact sf_some (⟨I_g10, (eg10_0.trans ex1), (eg10_1.trans ex2), (eg10_2.trans ex3), (eg10_3.trans ex4), (eg10_4.trans ex5), (show (h 0 24).toInt ≤ (g10 0 24).toInt by omega)⟩)
theorem sl_X7_added2_5   (h0 : dH) (I_h0 : InvQ h0)  (k : Int32 → dH → Option (Int32 × dH)) (Q : Int32 × dH → Prop) (hk : ∀ (v1 : Int32) (g : dH) (Ig : InvQ g) (e0 : g 0 3 = h0 0 3) (e1 : g 0 4 = h0 0 4) (e2 : g 0 13 = h0 0 13) (e3 : g 0 20 = h0 0 20) (e4 : g 0 21 = h0 0 21), (h0 0 24).toInt ≤ (g 0 24).toInt → Sf (k v1 g) Q)  : ∀ (n : Nat) (v1 : Int32) (h : dH) (I_h : InvQ h) (e0 : h 0 3 = h0 0 3) (e1 : h 0 4 = h0 0 4) (e2 : h 0 13 = h0 0 13) (e3 : h 0 20 = h0 0 20) (e4 : h 0 21 = h0 0 21), (h0 0 24).toInt ≤ (h 0 24).toInt → 160 - (h 0 24).toInt < (n : Int) → Sf (l_X7_added2_5  k n v1 h) Q
  | 0, v1, h, I_h, e0, e1, e2, e3, e4, hi, hm => by have := pq24 I_h; omega
  | n + 1, v1, h, I_h, e0, e1, e2, e3, e4, hi, hm => by
    rw [l_X7_added2_5]
    have pq_h : 0 ≤ (h 0 20).toInt ∧ (h 0 20).toInt ≤ 800 ∧ 0 ≤ (h 0 21).toInt ∧ (h 0 21).toInt ≤ 160 ∧ 0 ≤ (h 0 24).toInt ∧ (h 0 24).toInt ≤ (h 0 22).toInt ∧ (h 0 22).toInt ≤ (h 0 21).toInt ∧ ((h 0 23).toInt = 3 → (h 0 24).toInt < (h 0 22).toInt) := I_h.2
    have yx11 := congrArg Int32.toInt e0
    have yx12 := congrArg Int32.toInt e1
    have yx13 := congrArg Int32.toInt e2
    have yx14 := congrArg Int32.toInt e3
    have yx15 := congrArg Int32.toInt e4
    have tx16 : (43 : Int32).toInt = 43 := by decide
    refine sf_oP (s_X7_isSign h I_h (43 : Int32)) (fun r3 pr3 => ?_)
    refine sf_ite (fun c4 => ?_) (fun c5 => ?_)
    · skip
      have tx17 : (45 : Int32).toInt = 45 := by decide
      refine sf_oP (s_X7_isSign h I_h (45 : Int32)) (fun r6 pr6 => ?_)
      refine sf_ite (fun c7 => ?_) (fun c8 => ?_)
      · skip
        exact hk v1 h I_h e0 e1 e2 e3 e4 (by first | trivial | omega)
      · skip
        have tx18 : (h 0 25).toInt64.toInt = (h 0 25).toInt := l_i2l
        have tx19 : (43 : Int64).toInt = 43 := by decide
        have tx20 := dlcmp_ok ((h 0 25).toInt64) 43
        refine sf_ite (fun c9 => ?_) (fun c10 => ?_)
        · skip
          refine sf_oV (s_X7_next h I_h.1 (by omega)) (fun g11 pg11 => ?_)
          obtain ⟨I_g11, ex21, ex22, ex23, ex24, ex25, qg11⟩ := pg11
          try simp only at I_g11 ex21 ex22 ex23 ex24 ex25 qg11
          have yx26 := congrArg Int32.toInt ex21
          have yx27 := congrArg Int32.toInt ex22
          have yx28 := congrArg Int32.toInt ex23
          have yx29 := congrArg Int32.toInt ex24
          have yx30 := congrArg Int32.toInt ex25
          have pq_g11 : 0 ≤ (g11 0 20).toInt ∧ (g11 0 20).toInt ≤ 800 ∧ 0 ≤ (g11 0 21).toInt ∧ (g11 0 21).toInt ≤ 160 ∧ 0 ≤ (g11 0 24).toInt ∧ (g11 0 24).toInt ≤ (g11 0 22).toInt ∧ (g11 0 22).toInt ≤ (g11 0 21).toInt ∧ ((g11 0 23).toInt = 3 → (g11 0 24).toInt < (g11 0 22).toInt) := I_g11.2
          refine sf_oI (s_X7_term2 g11 I_g11 ) (fun r12 g13 pg13 => ?_)
          obtain ⟨I_g13, ex31, ex32, ex33, ex34, ex35, qg13⟩ := pg13
          try simp only at I_g13 ex31 ex32 ex33 ex34 ex35 qg13
          have yx36 := congrArg Int32.toInt ex31
          have yx37 := congrArg Int32.toInt ex32
          have yx38 := congrArg Int32.toInt ex33
          have yx39 := congrArg Int32.toInt ex34
          have yx40 := congrArg Int32.toInt ex35
          have pq_g13 : 0 ≤ (g13 0 20).toInt ∧ (g13 0 20).toInt ≤ 800 ∧ 0 ≤ (g13 0 21).toInt ∧ (g13 0 21).toInt ≤ 160 ∧ 0 ≤ (g13 0 24).toInt ∧ (g13 0 24).toInt ≤ (g13 0 22).toInt ∧ (g13 0 22).toInt ≤ (g13 0 21).toInt ∧ ((g13 0 23).toInt = 3 → (g13 0 24).toInt < (g13 0 22).toInt) := I_g13.2
          try have tx41 : (v1 + r12).toInt = v1.toInt + r12.toInt := i_add rfl rfl (by omega) (by omega)
          exact sl_X7_added2_5    h0 I_h0  k Q hk n (v1 + r12) g13 I_g13 (ex31.trans (ex21.trans e0)) (ex32.trans (ex22.trans e1)) (ex33.trans (ex23.trans e2)) (ex34.trans (ex24.trans e3)) (ex35.trans (ex25.trans e4)) (by first | trivial | omega) (by omega)
        · skip
          refine sf_oV (s_X7_next h I_h.1 (by omega)) (fun g14 pg14 => ?_)
          obtain ⟨I_g14, ex42, ex43, ex44, ex45, ex46, qg14⟩ := pg14
          try simp only at I_g14 ex42 ex43 ex44 ex45 ex46 qg14
          have yx47 := congrArg Int32.toInt ex42
          have yx48 := congrArg Int32.toInt ex43
          have yx49 := congrArg Int32.toInt ex44
          have yx50 := congrArg Int32.toInt ex45
          have yx51 := congrArg Int32.toInt ex46
          have pq_g14 : 0 ≤ (g14 0 20).toInt ∧ (g14 0 20).toInt ≤ 800 ∧ 0 ≤ (g14 0 21).toInt ∧ (g14 0 21).toInt ≤ 160 ∧ 0 ≤ (g14 0 24).toInt ∧ (g14 0 24).toInt ≤ (g14 0 22).toInt ∧ (g14 0 22).toInt ≤ (g14 0 21).toInt ∧ ((g14 0 23).toInt = 3 → (g14 0 24).toInt < (g14 0 22).toInt) := I_g14.2
          refine sf_oI (s_X7_term2 g14 I_g14 ) (fun r15 g16 pg16 => ?_)
          obtain ⟨I_g16, ex52, ex53, ex54, ex55, ex56, qg16⟩ := pg16
          try simp only at I_g16 ex52 ex53 ex54 ex55 ex56 qg16
          have yx57 := congrArg Int32.toInt ex52
          have yx58 := congrArg Int32.toInt ex53
          have yx59 := congrArg Int32.toInt ex54
          have yx60 := congrArg Int32.toInt ex55
          have yx61 := congrArg Int32.toInt ex56
          have pq_g16 : 0 ≤ (g16 0 20).toInt ∧ (g16 0 20).toInt ≤ 800 ∧ 0 ≤ (g16 0 21).toInt ∧ (g16 0 21).toInt ≤ 160 ∧ 0 ≤ (g16 0 24).toInt ∧ (g16 0 24).toInt ≤ (g16 0 22).toInt ∧ (g16 0 22).toInt ≤ (g16 0 21).toInt ∧ ((g16 0 23).toInt = 3 → (g16 0 24).toInt < (g16 0 22).toInt) := I_g16.2
          try have tx62 : (v1 - r15).toInt = v1.toInt - r15.toInt := i_sub rfl rfl (by omega) (by omega)
          exact sl_X7_added2_5    h0 I_h0  k Q hk n (v1 - r15) g16 I_g16 (ex52.trans (ex42.trans e0)) (ex53.trans (ex43.trans e1)) (ex54.trans (ex44.trans e2)) (ex55.trans (ex45.trans e3)) (ex56.trans (ex46.trans e4)) (by first | trivial | omega) (by omega)
    · skip
      have tx63 : (h 0 25).toInt64.toInt = (h 0 25).toInt := l_i2l
      have tx64 : (43 : Int64).toInt = 43 := by decide
      have tx65 := dlcmp_ok ((h 0 25).toInt64) 43
      refine sf_ite (fun c17 => ?_) (fun c18 => ?_)
      · skip
        refine sf_oV (s_X7_next h I_h.1 (by omega)) (fun g19 pg19 => ?_)
        obtain ⟨I_g19, ex66, ex67, ex68, ex69, ex70, qg19⟩ := pg19
        try simp only at I_g19 ex66 ex67 ex68 ex69 ex70 qg19
        have yx71 := congrArg Int32.toInt ex66
        have yx72 := congrArg Int32.toInt ex67
        have yx73 := congrArg Int32.toInt ex68
        have yx74 := congrArg Int32.toInt ex69
        have yx75 := congrArg Int32.toInt ex70
        have pq_g19 : 0 ≤ (g19 0 20).toInt ∧ (g19 0 20).toInt ≤ 800 ∧ 0 ≤ (g19 0 21).toInt ∧ (g19 0 21).toInt ≤ 160 ∧ 0 ≤ (g19 0 24).toInt ∧ (g19 0 24).toInt ≤ (g19 0 22).toInt ∧ (g19 0 22).toInt ≤ (g19 0 21).toInt ∧ ((g19 0 23).toInt = 3 → (g19 0 24).toInt < (g19 0 22).toInt) := I_g19.2
        refine sf_oI (s_X7_term2 g19 I_g19 ) (fun r20 g21 pg21 => ?_)
        obtain ⟨I_g21, ex76, ex77, ex78, ex79, ex80, qg21⟩ := pg21
        try simp only at I_g21 ex76 ex77 ex78 ex79 ex80 qg21
        have yx81 := congrArg Int32.toInt ex76
        have yx82 := congrArg Int32.toInt ex77
        have yx83 := congrArg Int32.toInt ex78
        have yx84 := congrArg Int32.toInt ex79
        have yx85 := congrArg Int32.toInt ex80
        have pq_g21 : 0 ≤ (g21 0 20).toInt ∧ (g21 0 20).toInt ≤ 800 ∧ 0 ≤ (g21 0 21).toInt ∧ (g21 0 21).toInt ≤ 160 ∧ 0 ≤ (g21 0 24).toInt ∧ (g21 0 24).toInt ≤ (g21 0 22).toInt ∧ (g21 0 22).toInt ≤ (g21 0 21).toInt ∧ ((g21 0 23).toInt = 3 → (g21 0 24).toInt < (g21 0 22).toInt) := I_g21.2
        try have tx86 : (v1 + r20).toInt = v1.toInt + r20.toInt := i_add rfl rfl (by omega) (by omega)
        exact sl_X7_added2_5    h0 I_h0  k Q hk n (v1 + r20) g21 I_g21 (ex76.trans (ex66.trans e0)) (ex77.trans (ex67.trans e1)) (ex78.trans (ex68.trans e2)) (ex79.trans (ex69.trans e3)) (ex80.trans (ex70.trans e4)) (by first | trivial | omega) (by omega)
      · skip
        refine sf_oV (s_X7_next h I_h.1 (by omega)) (fun g22 pg22 => ?_)
        obtain ⟨I_g22, ex87, ex88, ex89, ex90, ex91, qg22⟩ := pg22
        try simp only at I_g22 ex87 ex88 ex89 ex90 ex91 qg22
        have yx92 := congrArg Int32.toInt ex87
        have yx93 := congrArg Int32.toInt ex88
        have yx94 := congrArg Int32.toInt ex89
        have yx95 := congrArg Int32.toInt ex90
        have yx96 := congrArg Int32.toInt ex91
        have pq_g22 : 0 ≤ (g22 0 20).toInt ∧ (g22 0 20).toInt ≤ 800 ∧ 0 ≤ (g22 0 21).toInt ∧ (g22 0 21).toInt ≤ 160 ∧ 0 ≤ (g22 0 24).toInt ∧ (g22 0 24).toInt ≤ (g22 0 22).toInt ∧ (g22 0 22).toInt ≤ (g22 0 21).toInt ∧ ((g22 0 23).toInt = 3 → (g22 0 24).toInt < (g22 0 22).toInt) := I_g22.2
        refine sf_oI (s_X7_term2 g22 I_g22 ) (fun r23 g24 pg24 => ?_)
        obtain ⟨I_g24, ex97, ex98, ex99, ex100, ex101, qg24⟩ := pg24
        try simp only at I_g24 ex97 ex98 ex99 ex100 ex101 qg24
        have yx102 := congrArg Int32.toInt ex97
        have yx103 := congrArg Int32.toInt ex98
        have yx104 := congrArg Int32.toInt ex99
        have yx105 := congrArg Int32.toInt ex100
        have yx106 := congrArg Int32.toInt ex101
        have pq_g24 : 0 ≤ (g24 0 20).toInt ∧ (g24 0 20).toInt ≤ 800 ∧ 0 ≤ (g24 0 21).toInt ∧ (g24 0 21).toInt ≤ 160 ∧ 0 ≤ (g24 0 24).toInt ∧ (g24 0 24).toInt ≤ (g24 0 22).toInt ∧ (g24 0 22).toInt ≤ (g24 0 21).toInt ∧ ((g24 0 23).toInt = 3 → (g24 0 24).toInt < (g24 0 22).toInt) := I_g24.2
        try have tx107 : (v1 - r23).toInt = v1.toInt - r23.toInt := i_sub rfl rfl (by omega) (by omega)
        exact sl_X7_added2_5    h0 I_h0  k Q hk n (v1 - r23) g24 I_g24 (ex97.trans (ex87.trans e0)) (ex98.trans (ex88.trans e1)) (ex99.trans (ex89.trans e2)) (ex100.trans (ex90.trans e3)) (ex101.trans (ex91.trans e4)) (by first | trivial | omega) (by omega)
theorem s_X7_added2 (h : dH) (I_h : InvQ h)   : Sf (f_X7_added2  h) (fun o => InvQ o.2 ∧ o.2 0 3 = h 0 3 ∧ o.2 0 4 = h 0 4 ∧ o.2 0 13 = h 0 13 ∧ o.2 0 20 = h 0 20 ∧ o.2 0 21 = h 0 21 ∧ (h 0 24).toInt ≤ (o.2 0 24).toInt) := by
  unfold f_X7_added2
  have pq_h : 0 ≤ (h 0 20).toInt ∧ (h 0 20).toInt ≤ 800 ∧ 0 ≤ (h 0 21).toInt ∧ (h 0 21).toInt ≤ 160 ∧ 0 ≤ (h 0 24).toInt ∧ (h 0 24).toInt ≤ (h 0 22).toInt ∧ (h 0 22).toInt ≤ (h 0 21).toInt ∧ ((h 0 23).toInt = 3 → (h 0 24).toInt < (h 0 22).toInt) := I_h.2
  refine sf_oI (s_X7_term2 h I_h ) (fun r1 g2 pg2 => ?_)
  obtain ⟨I_g2, ex1, ex2, ex3, ex4, ex5, qg2⟩ := pg2
  try simp only at I_g2 ex1 ex2 ex3 ex4 ex5 qg2
  have yx6 := congrArg Int32.toInt ex1
  have yx7 := congrArg Int32.toInt ex2
  have yx8 := congrArg Int32.toInt ex3
  have yx9 := congrArg Int32.toInt ex4
  have yx10 := congrArg Int32.toInt ex5
  have pq_g2 : 0 ≤ (g2 0 20).toInt ∧ (g2 0 20).toInt ≤ 800 ∧ 0 ≤ (g2 0 21).toInt ∧ (g2 0 21).toInt ≤ 160 ∧ 0 ≤ (g2 0 24).toInt ∧ (g2 0 24).toInt ≤ (g2 0 22).toInt ∧ (g2 0 22).toInt ≤ (g2 0 21).toInt ∧ ((g2 0 23).toInt = 3 → (g2 0 24).toInt < (g2 0 22).toInt) := I_g2.2
  have := pq24 I_g2
  refine sl_X7_added2_5   g2 I_g2  _ _ (fun v1_25 g28 I_g28 eg28_0 eg28_1 eg28_2 eg28_3 eg28_4 px108 => ?_)  fuel0 r1 g2 I_g2 rfl rfl rfl rfl rfl (by first | trivial | omega) (by have := fuel0_eq; omega)
  have yx109 := congrArg Int32.toInt eg28_0
  have yx110 := congrArg Int32.toInt eg28_1
  have yx111 := congrArg Int32.toInt eg28_2
  have yx112 := congrArg Int32.toInt eg28_3
  have yx113 := congrArg Int32.toInt eg28_4
  have pq_g28 : 0 ≤ (g28 0 20).toInt ∧ (g28 0 20).toInt ≤ 800 ∧ 0 ≤ (g28 0 21).toInt ∧ (g28 0 21).toInt ≤ 160 ∧ 0 ≤ (g28 0 24).toInt ∧ (g28 0 24).toInt ≤ (g28 0 22).toInt ∧ (g28 0 22).toInt ≤ (g28 0 21).toInt ∧ ((g28 0 23).toInt = 3 → (g28 0 24).toInt < (g28 0 22).toInt) := I_g28.2
  exact sf_some (⟨I_g28, (eg28_0.trans ex1), (eg28_1.trans ex2), (eg28_2.trans ex3), (eg28_3.trans ex4), (eg28_4.trans ex5), (show (h 0 24).toInt ≤ (g28 0 24).toInt by omega)⟩)
end
