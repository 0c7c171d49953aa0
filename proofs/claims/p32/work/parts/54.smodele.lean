/-! that they answer: X7_term0, X7_added0, X7_not0, X7_both0, X7_either0, X7_part, X7_read (by program) -/
noncomputable section
theorem sl_X7_term0_5   (h0 : dH) (I_h0 : InvQ h0)  (k : Int32 → dH → Option (Int32 × dH)) (Q : Int32 × dH → Prop) (hk : ∀ (v1 : Int32) (g : dH) (Ig : InvQ g) (e0 : g 0 3 = h0 0 3) (e1 : g 0 4 = h0 0 4) (e2 : g 0 13 = h0 0 13) (e3 : g 0 20 = h0 0 20) (e4 : g 0 21 = h0 0 21), (h0 0 24).toInt ≤ (g 0 24).toInt → Sf (k v1 g) Q)  : ∀ (n : Nat) (v1 : Int32) (h : dH) (I_h : InvQ h) (e0 : h 0 3 = h0 0 3) (e1 : h 0 4 = h0 0 4) (e2 : h 0 13 = h0 0 13) (e3 : h 0 20 = h0 0 20) (e4 : h 0 21 = h0 0 21), (h0 0 24).toInt ≤ (h 0 24).toInt → 160 - (h 0 24).toInt < (n : Int) → Sf (l_X7_term0_5  k n v1 h) Q
  | 0, v1, h, I_h, e0, e1, e2, e3, e4, hi, hm => by have := pq24 I_h; omega
  | n + 1, v1, h, I_h, e0, e1, e2, e3, e4, hi, hm => by
    rw [l_X7_term0_5]
    have pq_h : 0 ≤ (h 0 20).toInt ∧ (h 0 20).toInt ≤ 800 ∧ 0 ≤ (h 0 21).toInt ∧ (h 0 21).toInt ≤ 160 ∧ 0 ≤ (h 0 24).toInt ∧ (h 0 24).toInt ≤ (h 0 22).toInt ∧ (h 0 22).toInt ≤ (h 0 21).toInt ∧ ((h 0 23).toInt = 3 → (h 0 24).toInt < (h 0 22).toInt) := I_h.2
    have yx11 := congrArg Int32.toInt e0
    have yx12 := congrArg Int32.toInt e1
    have yx13 := congrArg Int32.toInt e2
    have yx14 := congrArg Int32.toInt e3
    have yx15 := congrArg Int32.toInt e4
    have tx16 : (42 : Int32).toInt = 42 := by decide
    refine sf_oP (s_X7_isSign h I_h (42 : Int32)) (fun r3 pr3 => ?_)
    refine sf_ite (fun c4 => ?_) (fun c5 => ?_)
    · skip
      exact hk v1 h I_h e0 e1 e2 e3 e4 (by first | trivial | omega)
    · skip
      refine sf_oV (s_X7_next h I_h.1 (by omega)) (fun g6 pg6 => ?_)
      obtain ⟨I_g6, ex17, ex18, ex19, ex20, ex21, qg6⟩ := pg6
      try simp only at I_g6 ex17 ex18 ex19 ex20 ex21 qg6
      have yx22 := congrArg Int32.toInt ex17
      have yx23 := congrArg Int32.toInt ex18
      have yx24 := congrArg Int32.toInt ex19
      have yx25 := congrArg Int32.toInt ex20
      have yx26 := congrArg Int32.toInt ex21
      have pq_g6 : 0 ≤ (g6 0 20).toInt ∧ (g6 0 20).toInt ≤ 800 ∧ 0 ≤ (g6 0 21).toInt ∧ (g6 0 21).toInt ≤ 160 ∧ 0 ≤ (g6 0 24).toInt ∧ (g6 0 24).toInt ≤ (g6 0 22).toInt ∧ (g6 0 22).toInt ≤ (g6 0 21).toInt ∧ ((g6 0 23).toInt = 3 → (g6 0 24).toInt < (g6 0 22).toInt) := I_g6.2
      refine sf_oI (s_X7_atom0 g6 I_g6 ) (fun r7 g8 pg8 => ?_)
      obtain ⟨I_g8, ex27, ex28, ex29, ex30, ex31, qg8⟩ := pg8
      try simp only at I_g8 ex27 ex28 ex29 ex30 ex31 qg8
      have yx32 := congrArg Int32.toInt ex27
      have yx33 := congrArg Int32.toInt ex28
      have yx34 := congrArg Int32.toInt ex29
      have yx35 := congrArg Int32.toInt ex30
      have yx36 := congrArg Int32.toInt ex31
      have pq_g8 : 0 ≤ (g8 0 20).toInt ∧ (g8 0 20).toInt ≤ 800 ∧ 0 ≤ (g8 0 21).toInt ∧ (g8 0 21).toInt ≤ 160 ∧ 0 ≤ (g8 0 24).toInt ∧ (g8 0 24).toInt ≤ (g8 0 22).toInt ∧ (g8 0 22).toInt ≤ (g8 0 21).toInt ∧ ((g8 0 23).toInt = 3 → (g8 0 24).toInt < (g8 0 22).toInt) := I_g8.2
      try have tx37 : (v1 * r7).toInt = v1.toInt * r7.toInt := i_mul rfl rfl (by omega) (by omega)
      exact sl_X7_term0_5    h0 I_h0  k Q hk n (v1 * r7) g8 I_g8 (ex27.trans (ex17.trans e0)) (ex28.trans (ex18.trans e1)) (ex29.trans (ex19.trans e2)) (ex30.trans (ex20.trans e3)) (ex31.trans (ex21.trans e4)) (by first | trivial | omega) (by omega)
theorem s_X7_term0 (h : dH) (I_h : InvQ h)   : Sf (f_X7_term0  h) (fun o => InvQ o.2 ∧ o.2 0 3 = h 0 3 ∧ o.2 0 4 = h 0 4 ∧ o.2 0 13 = h 0 13 ∧ o.2 0 20 = h 0 20 ∧ o.2 0 21 = h 0 21 ∧ (h 0 24).toInt ≤ (o.2 0 24).toInt) := by
  unfold f_X7_term0
  have pq_h : 0 ≤ (h 0 20).toInt ∧ (h 0 20).toInt ≤ 800 ∧ 0 ≤ (h 0 21).toInt ∧ (h 0 21).toInt ≤ 160 ∧ 0 ≤ (h 0 24).toInt ∧ (h 0 24).toInt ≤ (h 0 22).toInt ∧ (h 0 22).toInt ≤ (h 0 21).toInt ∧ ((h 0 23).toInt = 3 → (h 0 24).toInt < (h 0 22).toInt) := I_h.2
  refine sf_oI (s_X7_atom0 h I_h ) (fun r1 g2 pg2 => ?_)
  obtain ⟨I_g2, ex1, ex2, ex3, ex4, ex5, qg2⟩ := pg2
  try simp only at I_g2 ex1 ex2 ex3 ex4 ex5 qg2
  have yx6 := congrArg Int32.toInt ex1
  have yx7 := congrArg Int32.toInt ex2
  have yx8 := congrArg Int32.toInt ex3
  have yx9 := congrArg Int32.toInt ex4
  have yx10 := congrArg Int32.toInt ex5
  have pq_g2 : 0 ≤ (g2 0 20).toInt ∧ (g2 0 20).toInt ≤ 800 ∧ 0 ≤ (g2 0 21).toInt ∧ (g2 0 21).toInt ≤ 160 ∧ 0 ≤ (g2 0 24).toInt ∧ (g2 0 24).toInt ≤ (g2 0 22).toInt ∧ (g2 0 22).toInt ≤ (g2 0 21).toInt ∧ ((g2 0 23).toInt = 3 → (g2 0 24).toInt < (g2 0 22).toInt) := I_g2.2
  have := pq24 I_g2
  refine sl_X7_term0_5   g2 I_g2  _ _ (fun v1_9 g10 I_g10 eg10_0 eg10_1 eg10_2 eg10_3 eg10_4 px38 => ?_)  fuel0 r1 g2 I_g2 rfl rfl rfl rfl rfl (by first | trivial | omega) (by have := fuel0_eq; omega)
  have yx39 := congrArg Int32.toInt eg10_0
  have yx40 := congrArg Int32.toInt eg10_1
  have yx41 := congrArg Int32.toInt eg10_2
  have yx42 := congrArg Int32.toInt eg10_3
  have yx43 := congrArg Int32.toInt eg10_4
  have pq_g10 : 0 ≤ (g10 0 20).toInt ∧ (g10 0 20).toInt ≤ 800 ∧ 0 ≤ (g10 0 21).toInt ∧ (g10 0 21).toInt ≤ 160 ∧ 0 ≤ (g10 0 24).toInt ∧ (g10 0 24).toInt ≤ (g10 0 22).toInt ∧ (g10 0 22).toInt ≤ (g10 0 21).toInt ∧ ((g10 0 23).toInt = 3 → (g10 0 24).toInt < (g10 0 22).toInt) := I_g10.2
  exact sf_some (⟨I_g10, (eg10_0.trans ex1), (eg10_1.trans ex2), (eg10_2.trans ex3), (eg10_3.trans ex4), (eg10_4.trans ex5), (show (h 0 24).toInt ≤ (g10 0 24).toInt by omega)⟩)
theorem sl_X7_added0_5   (h0 : dH) (I_h0 : InvQ h0)  (k : Int32 → dH → Option (Int32 × dH)) (Q : Int32 × dH → Prop) (hk : ∀ (v1 : Int32) (g : dH) (Ig : InvQ g) (e0 : g 0 3 = h0 0 3) (e1 : g 0 4 = h0 0 4) (e2 : g 0 13 = h0 0 13) (e3 : g 0 20 = h0 0 20) (e4 : g 0 21 = h0 0 21), (h0 0 24).toInt ≤ (g 0 24).toInt → Sf (k v1 g) Q)  : ∀ (n : Nat) (v1 : Int32) (h : dH) (I_h : InvQ h) (e0 : h 0 3 = h0 0 3) (e1 : h 0 4 = h0 0 4) (e2 : h 0 13 = h0 0 13) (e3 : h 0 20 = h0 0 20) (e4 : h 0 21 = h0 0 21), (h0 0 24).toInt ≤ (h 0 24).toInt → 160 - (h 0 24).toInt < (n : Int) → Sf (l_X7_added0_5  k n v1 h) Q
  | 0, v1, h, I_h, e0, e1, e2, e3, e4, hi, hm => by have := pq24 I_h; omega
  | n + 1, v1, h, I_h, e0, e1, e2, e3, e4, hi, hm => by
    rw [l_X7_added0_5]
    have pq_h : 0 ≤ (h 0 20).toInt ∧ (h 0 20).toInt ≤ 800 ∧ 0 ≤ (h 0 21).toInt ∧ (h 0 21).toInt ≤ 160 ∧ 0 ≤ (h 0 24).toInt ∧ (h 0 24).toInt ≤ (h 0 22).toInt ∧ (h 0 22).toInt ≤ (h 0 21).toInt ∧ ((h 0 23).toInt = 3 → (h 0 24).toInt < (h 0 22).toInt) := I_h.2
    have yx11 := congrArg Int32.toInt e0
    have yx12 := congrArg Int32.toInt e1
    have yx13 := congrArg Int32.toInt e2
    have yx14 := congrArg Int32.toInt e3
    have yx15 := congrArg Int32.toInt e4
    have tx16 : (43 : Int32).toInt = 43 := by decide
    refine sf_oP (s_X7_isSign h I_h (43 : Int32)) (fun r3 pr3 => ?_)
    refine sf_ite (fun c4 => ?_) (fun c5 => ?_)
    · skip
      have tx17 : (45 : Int32).toInt = 45 := by decide
      refine sf_oP (s_X7_isSign h I_h (45 : Int32)) (fun r6 pr6 => ?_)
      refine sf_ite (fun c7 => ?_) (fun c8 => ?_)
      · skip
        exact hk v1 h I_h e0 e1 e2 e3 e4 (by first | trivial | omega)
      · skip
        have tx18 : (h 0 25).toInt64.toInt = (h 0 25).toInt := l_i2l
        have tx19 : (43 : Int64).toInt = 43 := by decide
        have tx20 := dlcmp_ok ((h 0 25).toInt64) 43
        refine sf_ite (fun c9 => ?_) (fun c10 => ?_)
        · skip
          refine sf_oV (s_X7_next h I_h.1 (by omega)) (fun g11 pg11 => ?_)
          obtain ⟨I_g11, ex21, ex22, ex23, ex24, ex25, qg11⟩ := pg11
          try simp only at I_g11 ex21 ex22 ex23 ex24 ex25 qg11
          have yx26 := congrArg Int32.toInt ex21
          have yx27 := congrArg Int32.toInt ex22
          have yx28 := congrArg Int32.toInt ex23
          have yx29 := congrArg Int32.toInt ex24
          have yx30 := congrArg Int32.toInt ex25
          have pq_g11 : 0 ≤ (g11 0 20).toInt ∧ (g11 0 20).toInt ≤ 800 ∧ 0 ≤ (g11 0 21).toInt ∧ (g11 0 21).toInt ≤ 160 ∧ 0 ≤ (g11 0 24).toInt ∧ (g11 0 24).toInt ≤ (g11 0 22).toInt ∧ (g11 0 22).toInt ≤ (g11 0 21).toInt ∧ ((g11 0 23).toInt = 3 → (g11 0 24).toInt < (g11 0 22).toInt) := I_g11.2
          refine sf_oI (s_X7_term0 g11 I_g11 ) (fun r12 g13 pg13 => ?_)
          obtain ⟨I_g13, ex31, ex32, ex33, ex34, ex35, qg13⟩ := pg13
          try simp only at I_g13 ex31 ex32 ex33 ex34 ex35 qg13
          have yx36 := congrArg Int32.toInt ex31
          have yx37 := congrArg Int32.toInt ex32
          have yx38 := congrArg Int32.toInt ex33
          have yx39 := congrArg Int32.toInt ex34
          have yx40 := congrArg Int32.toInt ex35
          have pq_g13 : 0 ≤ (g13 0 20).toInt ∧ (g13 0 20).toInt ≤ 800 ∧ 0 ≤ (g13 0 21).toInt ∧ (g13 0 21).toInt ≤ 160 ∧ 0 ≤ (g13 0 24).toInt ∧ (g13 0 24).toInt ≤ (g13 0 22).toInt ∧ (g13 0 22).toInt ≤ (g13 0 21).toInt ∧ ((g13 0 23).toInt = 3 → (g13 0 24).toInt < (g13 0 22).toInt) := I_g13.2
          try have tx41 : (v1 + r12).toInt = v1.toInt + r12.toInt := i_add rfl rfl (by omega) (by omega)
          exact sl_X7_added0_5    h0 I_h0  k Q hk n (v1 + r12) g13 I_g13 (ex31.trans (ex21.trans e0)) (ex32.trans (ex22.trans e1)) (ex33.trans (ex23.trans e2)) (ex34.trans (ex24.trans e3)) (ex35.trans (ex25.trans e4)) (by first | trivial | omega) (by omega)
        · skip
          refine sf_oV (s_X7_next h I_h.1 (by omega)) (fun g14 pg14 => ?_)
          obtain ⟨I_g14, ex42, ex43, ex44, ex45, ex46, qg14⟩ := pg14
          try simp only at I_g14 ex42 ex43 ex44 ex45 ex46 qg14
          have yx47 := congrArg Int32.toInt ex42
          have yx48 := congrArg Int32.toInt ex43
          have yx49 := congrArg Int32.toInt ex44
          have yx50 := congrArg Int32.toInt ex45
          have yx51 := congrArg Int32.toInt ex46
          have pq_g14 : 0 ≤ (g14 0 20).toInt ∧ (g14 0 20).toInt ≤ 800 ∧ 0 ≤ (g14 0 21).toInt ∧ (g14 0 21).toInt ≤ 160 ∧ 0 ≤ (g14 0 24).toInt ∧ (g14 0 24).toInt ≤ (g14 0 22).toInt ∧ (g14 0 22).toInt ≤ (g14 0 21).toInt ∧ ((g14 0 23).toInt = 3 → (g14 0 24).toInt < (g14 0 22).toInt) := I_g14.2
          refine sf_oI (s_X7_term0 g14 I_g14 ) (fun r15 g16 pg16 => ?_)
          obtain ⟨I_g16, ex52, ex53, ex54, ex55, ex56, qg16⟩ := pg16
          try simp only at I_g16 ex52 ex53 ex54 ex55 ex56 qg16
          have yx57 := congrArg Int32.toInt ex52
          have yx58 := congrArg Int32.toInt ex53
          have yx59 := congrArg Int32.toInt ex54
          have yx60 := congrArg Int32.toInt ex55
          have yx61 := congrArg Int32.toInt ex56
          have pq_g16 : 0 ≤ (g16 0 20).toInt ∧ (g16 0 20).toInt ≤ 800 ∧ 0 ≤ (g16 0 21).toInt ∧ (g16 0 21).toInt ≤ 160 ∧ 0 ≤ (g16 0 24).toInt ∧ (g16 0 24).toInt ≤ (g16 0 22).toInt ∧ (g16 0 22).toInt ≤ (g16 0 21).toInt ∧ ((g16 0 23).toInt = 3 → (g16 0 24).toInt < (g16 0 22).toInt) := I_g16.2
          try have tx62 : (v1 - r15).toInt = v1.toInt - r15.toInt := i_sub rfl rfl (by omega) (by omega)
          exact sl_X7_added0_5    h0 I_h0  k Q hk n (v1 - r15) g16 I_g16 (ex52.trans (ex42.trans e0)) (ex53.trans (ex43.trans e1)) (ex54.trans (ex44.trans e2)) (ex55.trans (ex45.trans e3)) (ex56.trans (ex46.trans e4)) (by first | trivial | omega) (by omega)
    · skip
      have tx63 : (h 0 25).toInt64.toInt = (h 0 25).toInt := l_i2l
      have tx64 : (43 : Int64).toInt = 43 := by decide
      have tx65 := dlcmp_ok ((h 0 25).toInt64) 43
      refine sf_ite (fun c17 => ?_) (fun c18 => ?_)
      · skip
        refine sf_oV (s_X7_next h I_h.1 (by omega)) (fun g19 pg19 => ?_)
        obtain ⟨I_g19, ex66, ex67, ex68, ex69, ex70, qg19⟩ := pg19
        try simp only at I_g19 ex66 ex67 ex68 ex69 ex70 qg19
        have yx71 := congrArg Int32.toInt ex66
        have yx72 := congrArg Int32.toInt ex67
        have yx73 := congrArg Int32.toInt ex68
        have yx74 := congrArg Int32.toInt ex69
        have yx75 := congrArg Int32.toInt ex70
        have pq_g19 : 0 ≤ (g19 0 20).toInt ∧ (g19 0 20).toInt ≤ 800 ∧ 0 ≤ (g19 0 21).toInt ∧ (g19 0 21).toInt ≤ 160 ∧ 0 ≤ (g19 0 24).toInt ∧ (g19 0 24).toInt ≤ (g19 0 22).toInt ∧ (g19 0 22).toInt ≤ (g19 0 21).toInt ∧ ((g19 0 23).toInt = 3 → (g19 0 24).toInt < (g19 0 22).toInt) := I_g19.2
        refine sf_oI (s_X7_term0 g19 I_g19 ) (fun r20 g21 pg21 => ?_)
        obtain ⟨I_g21, ex76, ex77, ex78, ex79, ex80, qg21⟩ := pg21
        try simp only at I_g21 ex76 ex77 ex78 ex79 ex80 qg21
        have yx81 := congrArg Int32.toInt ex76
        have yx82 := congrArg Int32.toInt ex77
        have yx83 := congrArg Int32.toInt ex78
        have yx84 := congrArg Int32.toInt ex79
        have yx85 := congrArg Int32.toInt ex80
        have pq_g21 : 0 ≤ (g21 0 20).toInt ∧ (g21 0 20).toInt ≤ 800 ∧ 0 ≤ (g21 0 21).toInt ∧ (g21 0 21).toInt ≤ 160 ∧ 0 ≤ (g21 0 24).toInt ∧ (g21 0 24).toInt ≤ (g21 0 22).toInt ∧ (g21 0 22).toInt ≤ (g21 0 21).toInt ∧ ((g21 0 23).toInt = 3 → (g21 0 24).toInt < (g21 0 22).toInt) := I_g21.2
        try have tx86 : (v1 + r20).toInt = v1.toInt + r20.toInt := i_add rfl rfl (by omega) (by omega)
        exact sl_X7_added0_5    h0 I_h0  k Q hk n (v1 + r20) g21 I_g21 (ex76.trans (ex66.trans e0)) (ex77.trans (ex67.trans e1)) (ex78.trans (ex68.trans e2)) (ex79.trans (ex69.trans e3)) (ex80.trans (ex70.trans e4)) (by first | trivial | omega) (by omega)
      · skip
        refine sf_oV (s_X7_next h I_h.1 (by omega)) (fun g22 pg22 => ?_)
        obtain ⟨I_g22, ex87, ex88, ex89, ex90, ex91, qg22⟩ := pg22
        try simp only at I_g22 ex87 ex88 ex89 ex90 ex91 qg22
        have yx92 := congrArg Int32.toInt ex87
        have yx93 := congrArg Int32.toInt ex88
        have yx94 := congrArg Int32.toInt ex89
        have yx95 := congrArg Int32.toInt ex90
        have yx96 := congrArg Int32.toInt ex91
        have pq_g22 : 0 ≤ (g22 0 20).toInt ∧ (g22 0 20).toInt ≤ 800 ∧ 0 ≤ (g22 0 21).toInt ∧ (g22 0 21).toInt ≤ 160 ∧ 0 ≤ (g22 0 24).toInt ∧ (g22 0 24).toInt ≤ (g22 0 22).toInt ∧ (g22 0 22).toInt ≤ (g22 0 21).toInt ∧ ((g22 0 23).toInt = 3 → (g22 0 24).toInt < (g22 0 22).toInt) := I_g22.2
        refine sf_oI (s_X7_term0 g22 I_g22 ) (fun r23 g24 pg24 => ?_)
        obtain ⟨I_g24, ex97, ex98, ex99, ex100, ex101, qg24⟩ := pg24
        try simp only at I_g24 ex97 ex98 ex99 ex100 ex101 qg24
        have yx102 := congrArg Int32.toInt ex97
        have yx103 := congrArg Int32.toInt ex98
        have yx104 := congrArg Int32.toInt ex99
        have yx105 := congrArg Int32.toInt ex100
        have yx106 := congrArg Int32.toInt ex101
        have pq_g24 : 0 ≤ (g24 0 20).toInt ∧ (g24 0 20).toInt ≤ 800 ∧ 0 ≤ (g24 0 21).toInt ∧ (g24 0 21).toInt ≤ 160 ∧ 0 ≤ (g24 0 24).toInt ∧ (g24 0 24).toInt ≤ (g24 0 22).toInt ∧ (g24 0 22).toInt ≤ (g24 0 21).toInt ∧ ((g24 0 23).toInt = 3 → (g24 0 24).toInt < (g24 0 22).toInt) := I_g24.2
        try have tx107 : (v1 - r23).toInt = v1.toInt - r23.toInt := i_sub rfl rfl (by omega) (by omega)
        exact sl_X7_added0_5    h0 I_h0  k Q hk n (v1 - r23) g24 I_g24 (ex97.trans (ex87.trans e0)) (ex98.trans (ex88.trans e1)) (ex99.trans (ex89.trans e2)) (ex100.trans (ex90.trans e3)) (ex101.trans (ex91.trans e4)) (by first | trivial | omega) (by omega)
theorem s_X7_added0 (h : dH) (I_h : InvQ h)   : Sf (f_X7_added0  h) (fun o => InvQ o.2 ∧ o.2 0 3 = h 0 3 ∧ o.2 0 4 = h 0 4 ∧ o.2 0 13 = h 0 13 ∧ o.2 0 20 = h 0 20 ∧ o.2 0 21 = h 0 21 ∧ (h 0 24).toInt ≤ (o.2 0 24).toInt) := by
  unfold f_X7_added0
  have pq_h : 0 ≤ (h 0 20).toInt ∧ (h 0 20).toInt ≤ 800 ∧ 0 ≤ (h 0 21).toInt ∧ (h 0 21).toInt ≤ 160 ∧ 0 ≤ (h 0 24).toInt ∧ (h 0 24).toInt ≤ (h 0 22).toInt ∧ (h 0 22).toInt ≤ (h 0 21).toInt ∧ ((h 0 23).toInt = 3 → (h 0 24).toInt < (h 0 22).toInt) := I_h.2
  refine sf_oI (s_X7_term0 h I_h ) (fun r1 g2 pg2 => ?_)
  obtain ⟨I_g2, ex1, ex2, ex3, ex4, ex5, qg2⟩ := pg2
  try simp only at I_g2 ex1 ex2 ex3 ex4 ex5 qg2
  have yx6 := congrArg Int32.toInt ex1
  have yx7 := congrArg Int32.toInt ex2
  have yx8 := congrArg Int32.toInt ex3
  have yx9 := congrArg Int32.toInt ex4
  have yx10 := congrArg Int32.toInt ex5
  have pq_g2 : 0 ≤ (g2 0 20).toInt ∧ (g2 0 20).toInt ≤ 800 ∧ 0 ≤ (g2 0 21).toInt ∧ (g2 0 21).toInt ≤ 160 ∧ 0 ≤ (g2 0 24).toInt ∧ (g2 0 24).toInt ≤ (g2 0 22).toInt ∧ (g2 0 22).toInt ≤ (g2 0 21).toInt ∧ ((g2 0 23).toInt = 3 → (g2 0 24).toInt < (g2 0 22).toInt) := I_g2.2
  have := pq24 I_g2
  refine sl_X7_added0_5   g2 I_g2  _ _ (fun v1_25 g28 I_g28 eg28_0 eg28_1 eg28_2 eg28_3 eg28_4 px108 => ?_)  fuel0 r1 g2 I_g2 rfl rfl rfl rfl rfl (by first | trivial | omega) (by have := fuel0_eq; omega)
  have yx109 := congrArg Int32.toInt eg28_0
  have yx110 := congrArg Int32.toInt eg28_1
  have yx111 := congrArg Int32.toInt eg28_2
  have yx112 := congrArg Int32.toInt eg28_3
  have yx113 := congrArg Int32.toInt eg28_4
  have pq_g28 : 0 ≤ (g28 0 20).toInt ∧ (g28 0 20).toInt ≤ 800 ∧ 0 ≤ (g28 0 21).toInt ∧ (g28 0 21).toInt ≤ 160 ∧ 0 ≤ (g28 0 24).toInt ∧ (g28 0 24).toInt ≤ (g28 0 22).toInt ∧ (g28 0 22).toInt ≤ (g28 0 21).toInt ∧ ((g28 0 23).toInt = 3 → (g28 0 24).toInt < (g28 0 22).toInt) := I_g28.2
  exact sf_some (⟨I_g28, (eg28_0.trans ex1), (eg28_1.trans ex2), (eg28_2.trans ex3), (eg28_3.trans ex4), (eg28_4.trans ex5), (show (h 0 24).toInt ≤ (g28 0 24).toInt by omega)⟩)
theorem s_X7_not0 (h : dH) (I_h : InvQ h)   : Sf (f_X7_not0  h) (fun o => InvQ o.2 ∧ o.2 0 3 = h 0 3 ∧ o.2 0 4 = h 0 4 ∧ o.2 0 13 = h 0 13 ∧ o.2 0 20 = h 0 20 ∧ o.2 0 21 = h 0 21 ∧ (h 0 24).toInt ≤ (o.2 0 24).toInt) := by
  unfold f_X7_not0
  have pq_h : 0 ≤ (h 0 20).toInt ∧ (h 0 20).toInt ≤ 800 ∧ 0 ≤ (h 0 21).toInt ∧ (h 0 21).toInt ≤ 160 ∧ 0 ≤ (h 0 24).toInt ∧ (h 0 24).toInt ≤ (h 0 22).toInt ∧ (h 0 22).toInt ≤ (h 0 21).toInt ∧ ((h 0 23).toInt = 3 → (h 0 24).toInt < (h 0 22).toInt) := I_h.2
  have tx1 : (110 : Int32).toInt = 110 := by decide
  have tx2 : (111 : Int32).toInt = 111 := by decide
  have tx3 : (116 : Int32).toInt = 116 := by decide
  have tx4 : (0 : Int32).toInt = 0 := by decide
  refine sf_oP (s_X7_isWord h I_h (110 : Int32) (111 : Int32) (116 : Int32) (0 : Int32) (0 : Int32) (0 : Int32) (0 : Int32) (0 : Int32)) (fun r1 pr1 => ?_)
  refine sf_ite (fun c2 => ?_) (fun c3 => ?_)
  · skip
    refine sf_oI (s_X7_added0 h I_h ) (fun r4 g5 pg5 => ?_)
    obtain ⟨I_g5, ex5, ex6, ex7, ex8, ex9, qg5⟩ := pg5
    try simp only at I_g5 ex5 ex6 ex7 ex8 ex9 qg5
    have yx10 := congrArg Int32.toInt ex5
    have yx11 := congrArg Int32.toInt ex6
    have yx12 := congrArg Int32.toInt ex7
    have yx13 := congrArg Int32.toInt ex8
    have yx14 := congrArg Int32.toInt ex9
    have pq_g5 : 0 ≤ (g5 0 20).toInt ∧ (g5 0 20).toInt ≤ 800 ∧ 0 ≤ (g5 0 21).toInt ∧ (g5 0 21).toInt ≤ 160 ∧ 0 ≤ (g5 0 24).toInt ∧ (g5 0 24).toInt ≤ (g5 0 22).toInt ∧ (g5 0 22).toInt ≤ (g5 0 21).toInt ∧ ((g5 0 23).toInt = 3 → (g5 0 24).toInt < (g5 0 22).toInt) := I_g5.2
    have tx15 : (60 : Int32).toInt = 60 := by decide
    refine sf_oP (s_X7_isSign g5 I_g5 (60 : Int32)) (fun r6 pr6 => ?_)
    refine sf_ite (fun c7 => ?_) (fun c8 => ?_)
    · skip
      have tx16 : (61 : Int32).toInt = 61 := by decide
      refine sf_oP (s_X7_isSign g5 I_g5 (61 : Int32)) (fun r9 pr9 => ?_)
      refine sf_ite (fun c10 => ?_) (fun c11 => ?_)
      · skip
        exact sf_some (⟨I_g5, ex5, ex6, ex7, ex8, ex9, (show (h 0 24).toInt ≤ (g5 0 24).toInt by omega)⟩)
      · skip
        have tx17 : (g5 0 25).toInt64.toInt = (g5 0 25).toInt := l_i2l
        have tx18 : (60 : Int64).toInt = 60 := by decide
        have tx19 := dlcmp_ok ((g5 0 25).toInt64) 60
        refine sf_ite (fun c12 => ?_) (fun c13 => ?_)
        · skip
          refine sf_oV (s_X7_next g5 I_g5.1 (by omega)) (fun g14 pg14 => ?_)
          obtain ⟨I_g14, ex20, ex21, ex22, ex23, ex24, qg14⟩ := pg14
          try simp only at I_g14 ex20 ex21 ex22 ex23 ex24 qg14
          have yx25 := congrArg Int32.toInt ex20
          have yx26 := congrArg Int32.toInt ex21
          have yx27 := congrArg Int32.toInt ex22
          have yx28 := congrArg Int32.toInt ex23
          have yx29 := congrArg Int32.toInt ex24
          have pq_g14 : 0 ≤ (g14 0 20).toInt ∧ (g14 0 20).toInt ≤ 800 ∧ 0 ≤ (g14 0 21).toInt ∧ (g14 0 21).toInt ≤ 160 ∧ 0 ≤ (g14 0 24).toInt ∧ (g14 0 24).toInt ≤ (g14 0 22).toInt ∧ (g14 0 22).toInt ≤ (g14 0 21).toInt ∧ ((g14 0 23).toInt = 3 → (g14 0 24).toInt < (g14 0 22).toInt) := I_g14.2
          refine sf_oI (s_X7_added0 g14 I_g14 ) (fun r15 g16 pg16 => ?_)
          obtain ⟨I_g16, ex30, ex31, ex32, ex33, ex34, qg16⟩ := pg16
          try simp only at I_g16 ex30 ex31 ex32 ex33 ex34 qg16
          have yx35 := congrArg Int32.toInt ex30
          have yx36 := congrArg Int32.toInt ex31
          have yx37 := congrArg Int32.toInt ex32
          have yx38 := congrArg Int32.toInt ex33
          have yx39 := congrArg Int32.toInt ex34
          have pq_g16 : 0 ≤ (g16 0 20).toInt ∧ (g16 0 20).toInt ≤ 800 ∧ 0 ≤ (g16 0 21).toInt ∧ (g16 0 21).toInt ≤ 160 ∧ 0 ≤ (g16 0 24).toInt ∧ (g16 0 24).toInt ≤ (g16 0 22).toInt ∧ (g16 0 22).toInt ≤ (g16 0 21).toInt ∧ ((g16 0 23).toInt = 3 → (g16 0 24).toInt < (g16 0 22).toInt) := I_g16.2
          refine sf_ite (fun c17 => ?_) (fun c18 => ?_)
          · skip
            have tx40 : (1 : Int32).toInt = 1 := by decide
            exact sf_some (⟨I_g16, (ex30.trans (ex20.trans ex5)), (ex31.trans (ex21.trans ex6)), (ex32.trans (ex22.trans ex7)), (ex33.trans (ex23.trans ex8)), (ex34.trans (ex24.trans ex9)), (show (h 0 24).toInt ≤ (g16 0 24).toInt by omega)⟩)
          · skip
            have tx41 : (0 : Int32).toInt = 0 := by decide
            exact sf_some (⟨I_g16, (ex30.trans (ex20.trans ex5)), (ex31.trans (ex21.trans ex6)), (ex32.trans (ex22.trans ex7)), (ex33.trans (ex23.trans ex8)), (ex34.trans (ex24.trans ex9)), (show (h 0 24).toInt ≤ (g16 0 24).toInt by omega)⟩)
        · skip
          refine sf_oV (s_X7_next g5 I_g5.1 (by omega)) (fun g19 pg19 => ?_)
          obtain ⟨I_g19, ex42, ex43, ex44, ex45, ex46, qg19⟩ := pg19
          try simp only at I_g19 ex42 ex43 ex44 ex45 ex46 qg19
          have yx47 := congrArg Int32.toInt ex42
          have yx48 := congrArg Int32.toInt ex43
          have yx49 := congrArg Int32.toInt ex44
          have yx50 := congrArg Int32.toInt ex45
          have yx51 := congrArg Int32.toInt ex46
          have pq_g19 : 0 ≤ (g19 0 20).toInt ∧ (g19 0 20).toInt ≤ 800 ∧ 0 ≤ (g19 0 21).toInt ∧ (g19 0 21).toInt ≤ 160 ∧ 0 ≤ (g19 0 24).toInt ∧ (g19 0 24).toInt ≤ (g19 0 22).toInt ∧ (g19 0 22).toInt ≤ (g19 0 21).toInt ∧ ((g19 0 23).toInt = 3 → (g19 0 24).toInt < (g19 0 22).toInt) := I_g19.2
          refine sf_oI (s_X7_added0 g19 I_g19 ) (fun r20 g21 pg21 => ?_)
          obtain ⟨I_g21, ex52, ex53, ex54, ex55, ex56, qg21⟩ := pg21
          try simp only at I_g21 ex52 ex53 ex54 ex55 ex56 qg21
          have yx57 := congrArg Int32.toInt ex52
          have yx58 := congrArg Int32.toInt ex53
          have yx59 := congrArg Int32.toInt ex54
          have yx60 := congrArg Int32.toInt ex55
          have yx61 := congrArg Int32.toInt ex56
          have pq_g21 : 0 ≤ (g21 0 20).toInt ∧ (g21 0 20).toInt ≤ 800 ∧ 0 ≤ (g21 0 21).toInt ∧ (g21 0 21).toInt ≤ 160 ∧ 0 ≤ (g21 0 24).toInt ∧ (g21 0 24).toInt ≤ (g21 0 22).toInt ∧ (g21 0 22).toInt ≤ (g21 0 21).toInt ∧ ((g21 0 23).toInt = 3 → (g21 0 24).toInt < (g21 0 22).toInt) := I_g21.2
          refine sf_ite (fun c22 => ?_) (fun c23 => ?_)
          · skip
            have tx62 : (1 : Int32).toInt = 1 := by decide
            exact sf_some (⟨I_g21, (ex52.trans (ex42.trans ex5)), (ex53.trans (ex43.trans ex6)), (ex54.trans (ex44.trans ex7)), (ex55.trans (ex45.trans ex8)), (ex56.trans (ex46.trans ex9)), (show (h 0 24).toInt ≤ (g21 0 24).toInt by omega)⟩)
          · skip
            have tx63 : (0 : Int32).toInt = 0 := by decide
            exact sf_some (⟨I_g21, (ex52.trans (ex42.trans ex5)), (ex53.trans (ex43.trans ex6)), (ex54.trans (ex44.trans ex7)), (ex55.trans (ex45.trans ex8)), (ex56.trans (ex46.trans ex9)), (show (h 0 24).toInt ≤ (g21 0 24).toInt by omega)⟩)
    · skip
      have tx64 : (g5 0 25).toInt64.toInt = (g5 0 25).toInt := l_i2l
      have tx65 : (60 : Int64).toInt = 60 := by decide
      have tx66 := dlcmp_ok ((g5 0 25).toInt64) 60
      refine sf_ite (fun c24 => ?_) (fun c25 => ?_)
      · skip
        refine sf_oV (s_X7_next g5 I_g5.1 (by omega)) (fun g26 pg26 => ?_)
        obtain ⟨I_g26, ex67, ex68, ex69, ex70, ex71, qg26⟩ := pg26
        try simp only at I_g26 ex67 ex68 ex69 ex70 ex71 qg26
        have yx72 := congrArg Int32.toInt ex67
        have yx73 := congrArg Int32.toInt ex68
        have yx74 := congrArg Int32.toInt ex69
        have yx75 := congrArg Int32.toInt ex70
        have yx76 := congrArg Int32.toInt ex71
        have pq_g26 : 0 ≤ (g26 0 20).toInt ∧ (g26 0 20).toInt ≤ 800 ∧ 0 ≤ (g26 0 21).toInt ∧ (g26 0 21).toInt ≤ 160 ∧ 0 ≤ (g26 0 24).toInt ∧ (g26 0 24).toInt ≤ (g26 0 22).toInt ∧ (g26 0 22).toInt ≤ (g26 0 21).toInt ∧ ((g26 0 23).toInt = 3 → (g26 0 24).toInt < (g26 0 22).toInt) := I_g26.2
        refine sf_oI (s_X7_added0 g26 I_g26 ) (fun r27 g28 pg28 => ?_)
        obtain ⟨I_g28, ex77, ex78, ex79, ex80, ex81, qg28⟩ := pg28
        try simp only at I_g28 ex77 ex78 ex79 ex80 ex81 qg28
        have yx82 := congrArg Int32.toInt ex77
        have yx83 := congrArg Int32.toInt ex78
        have yx84 := congrArg Int32.toInt ex79
        have yx85 := congrArg Int32.toInt ex80
        have yx86 := congrArg Int32.toInt ex81
        have pq_g28 : 0 ≤ (g28 0 20).toInt ∧ (g28 0 20).toInt ≤ 800 ∧ 0 ≤ (g28 0 21).toInt ∧ (g28 0 21).toInt ≤ 160 ∧ 0 ≤ (g28 0 24).toInt ∧ (g28 0 24).toInt ≤ (g28 0 22).toInt ∧ (g28 0 22).toInt ≤ (g28 0 21).toInt ∧ ((g28 0 23).toInt = 3 → (g28 0 24).toInt < (g28 0 22).toInt) := I_g28.2
        refine sf_ite (fun c29 => ?_) (fun c30 => ?_)
        · skip
          have tx87 : (1 : Int32).toInt = 1 := by decide
          exact sf_some (⟨I_g28, (ex77.trans (ex67.trans ex5)), (ex78.trans (ex68.trans ex6)), (ex79.trans (ex69.trans ex7)), (ex80.trans (ex70.trans ex8)), (ex81.trans (ex71.trans ex9)), (show (h 0 24).toInt ≤ (g28 0 24).toInt by omega)⟩)
        · skip
          have tx88 : (0 : Int32).toInt = 0 := by decide
          exact sf_some (⟨I_g28, (ex77.trans (ex67.trans ex5)), (ex78.trans (ex68.trans ex6)), (ex79.trans (ex69.trans ex7)), (ex80.trans (ex70.trans ex8)), (ex81.trans (ex71.trans ex9)), (show (h 0 24).toInt ≤ (g28 0 24).toInt by omega)⟩)
      · skip
        refine sf_oV (s_X7_next g5 I_g5.1 (by omega)) (fun g31 pg31 => ?_)
        obtain ⟨I_g31, ex89, ex90, ex91, ex92, ex93, qg31⟩ := pg31
        try simp only at I_g31 ex89 ex90 ex91 ex92 ex93 qg31
        have yx94 := congrArg Int32.toInt ex89
        have yx95 := congrArg Int32.toInt ex90
        have yx96 := congrArg Int32.toInt ex91
        have yx97 := congrArg Int32.toInt ex92
        have yx98 := congrArg Int32.toInt ex93
        have pq_g31 : 0 ≤ (g31 0 20).toInt ∧ (g31 0 20).toInt ≤ 800 ∧ 0 ≤ (g31 0 21).toInt ∧ (g31 0 21).toInt ≤ 160 ∧ 0 ≤ (g31 0 24).toInt ∧ (g31 0 24).toInt ≤ (g31 0 22).toInt ∧ (g31 0 22).toInt ≤ (g31 0 21).toInt ∧ ((g31 0 23).toInt = 3 → (g31 0 24).toInt < (g31 0 22).toInt) := I_g31.2
        refine sf_oI (s_X7_added0 g31 I_g31 ) (fun r32 g33 pg33 => ?_)
        obtain ⟨I_g33, ex99, ex100, ex101, ex102, ex103, qg33⟩ := pg33
        try simp only at I_g33 ex99 ex100 ex101 ex102 ex103 qg33
        have yx104 := congrArg Int32.toInt ex99
        have yx105 := congrArg Int32.toInt ex100
        have yx106 := congrArg Int32.toInt ex101
        have yx107 := congrArg Int32.toInt ex102
        have yx108 := congrArg Int32.toInt ex103
        have pq_g33 : 0 ≤ (g33 0 20).toInt ∧ (g33 0 20).toInt ≤ 800 ∧ 0 ≤ (g33 0 21).toInt ∧ (g33 0 21).toInt ≤ 160 ∧ 0 ≤ (g33 0 24).toInt ∧ (g33 0 24).toInt ≤ (g33 0 22).toInt ∧ (g33 0 22).toInt ≤ (g33 0 21).toInt ∧ ((g33 0 23).toInt = 3 → (g33 0 24).toInt < (g33 0 22).toInt) := I_g33.2
        refine sf_ite (fun c34 => ?_) (fun c35 => ?_)
        · skip
          have tx109 : (1 : Int32).toInt = 1 := by decide
          exact sf_some (⟨I_g33, (ex99.trans (ex89.trans ex5)), (ex100.trans (ex90.trans ex6)), (ex101.trans (ex91.trans ex7)), (ex102.trans (ex92.trans ex8)), (ex103.trans (ex93.trans ex9)), (show (h 0 24).toInt ≤ (g33 0 24).toInt by omega)⟩)
        · skip
          have tx110 : (0 : Int32).toInt = 0 := by decide
          exact sf_some (⟨I_g33, (ex99.trans (ex89.trans ex5)), (ex100.trans (ex90.trans ex6)), (ex101.trans (ex91.trans ex7)), (ex102.trans (ex92.trans ex8)), (ex103.trans (ex93.trans ex9)), (show (h 0 24).toInt ≤ (g33 0 24).toInt by omega)⟩)
  · skip
    refine sf_oI (s_X7_opens h I_h ) (fun r36 g37 pg37 => ?_)
    obtain ⟨I_g37, ex111, ex112, ex113, ex114, ex115, qg37⟩ := pg37
    try simp only at I_g37 ex111 ex112 ex113 ex114 ex115 qg37
    have yx116 := congrArg Int32.toInt ex111
    have yx117 := congrArg Int32.toInt ex112
    have yx118 := congrArg Int32.toInt ex113
    have yx119 := congrArg Int32.toInt ex114
    have yx120 := congrArg Int32.toInt ex115
    have pq_g37 : 0 ≤ (g37 0 20).toInt ∧ (g37 0 20).toInt ≤ 800 ∧ 0 ≤ (g37 0 21).toInt ∧ (g37 0 21).toInt ≤ 160 ∧ 0 ≤ (g37 0 24).toInt ∧ (g37 0 24).toInt ≤ (g37 0 22).toInt ∧ (g37 0 22).toInt ≤ (g37 0 21).toInt ∧ ((g37 0 23).toInt = 3 → (g37 0 24).toInt < (g37 0 22).toInt) := I_g37.2
    refine sf_ite (fun c38 => ?_) (fun c39 => ?_)
    · skip
      have tx121 : (0 : Int32).toInt = 0 := by decide
      exact sf_some (⟨I_g37, ex111, ex112, ex113, ex114, ex115, (show (h 0 24).toInt ≤ (g37 0 24).toInt by omega)⟩)
    · skip
      refine sf_oI (s_X7_not1 g37 I_g37 ) (fun r40 g41 pg41 => ?_)
      obtain ⟨I_g41, ex122, ex123, ex124, ex125, ex126, qg41⟩ := pg41
      try simp only at I_g41 ex122 ex123 ex124 ex125 ex126 qg41
      have yx127 := congrArg Int32.toInt ex122
      have yx128 := congrArg Int32.toInt ex123
      have yx129 := congrArg Int32.toInt ex124
      have yx130 := congrArg Int32.toInt ex125
      have yx131 := congrArg Int32.toInt ex126
      have pq_g41 : 0 ≤ (g41 0 20).toInt ∧ (g41 0 20).toInt ≤ 800 ∧ 0 ≤ (g41 0 21).toInt ∧ (g41 0 21).toInt ≤ 160 ∧ 0 ≤ (g41 0 24).toInt ∧ (g41 0 24).toInt ≤ (g41 0 22).toInt ∧ (g41 0 22).toInt ≤ (g41 0 21).toInt ∧ ((g41 0 23).toInt = 3 → (g41 0 24).toInt < (g41 0 22).toInt) := I_g41.2
      try have tx132 : ((g41 0 26) - 1).toInt = (g41 0 26).toInt - 1 := i_sub rfl (by decide) (by omega) (by omega)
      refine sf_oH (fun g42 hg42 => ?_)
      have I_g42 : InvQ g42 := by rw [hg42]; exact invQ_free I_g41 rfl (by decide)
      have pq_g42 : 0 ≤ (g42 0 20).toInt ∧ (g42 0 20).toInt ≤ 800 ∧ 0 ≤ (g42 0 21).toInt ∧ (g42 0 21).toInt ≤ 160 ∧ 0 ≤ (g42 0 24).toInt ∧ (g42 0 24).toInt ≤ (g42 0 22).toInt ∧ (g42 0 22).toInt ≤ (g42 0 21).toInt ∧ ((g42 0 23).toInt = 3 → (g42 0 24).toInt < (g42 0 22).toInt) := I_g42.2
      have ex133 : g42 0 3 = g41 0 3 := by rw [hg42]; exact dU_ne (by omega)
      have yx134 := congrArg Int32.toInt ex133
      have ex135 : g42 0 4 = g41 0 4 := by rw [hg42]; exact dU_ne (by omega)
      have yx136 := congrArg Int32.toInt ex135
      have ex137 : g42 0 13 = g41 0 13 := by rw [hg42]; exact dU_ne (by omega)
      have yx138 := congrArg Int32.toInt ex137
      have ex139 : g42 0 20 = g41 0 20 := by rw [hg42]; exact dU_ne (by omega)
      have yx140 := congrArg Int32.toInt ex139
      have ex141 : g42 0 21 = g41 0 21 := by rw [hg42]; exact dU_ne (by omega)
      have yx142 := congrArg Int32.toInt ex141
      have ex143 : g42 0 22 = g41 0 22 := by rw [hg42]; exact dU_ne (by omega)
      have yx144 := congrArg Int32.toInt ex143
      have ex145 : g42 0 23 = g41 0 23 := by rw [hg42]; exact dU_ne (by omega)
      have yx146 := congrArg Int32.toInt ex145
      have ex147 : g42 0 24 = g41 0 24 := by rw [hg42]; exact dU_ne (by omega)
      have yx148 := congrArg Int32.toInt ex147
      have yx149 : (g42 0 26).toInt = ((g41 0 26) - 1).toInt := by rw [hg42, dU_eq]
      refine sf_ite (fun c43 => ?_) (fun c44 => ?_)
      · skip
        have tx150 : (1 : Int32).toInt = 1 := by decide
        exact sf_some (⟨I_g42, (ex133.trans (ex122.trans ex111)), (ex135.trans (ex123.trans ex112)), (ex137.trans (ex124.trans ex113)), (ex139.trans (ex125.trans ex114)), (ex141.trans (ex126.trans ex115)), (show (h 0 24).toInt ≤ (g42 0 24).toInt by omega)⟩)
      · skip
        have tx151 : (0 : Int32).toInt = 0 := by decide
        exact sf_some (⟨I_g42, (ex133.trans (ex122.trans ex111)), (ex135.trans (ex123.trans ex112)), (ex137.trans (ex124.trans ex113)), (ex139.trans (ex125.trans ex114)), (ex141.trans (ex126.trans ex115)), (show (h 0 24).toInt ≤ (g42 0 24).toInt by omega)⟩)
theorem sl_X7_both0_5   (h0 : dH) (I_h0 : InvQ h0)  (k : Int32 → dH → Option (Int32 × dH)) (Q : Int32 × dH → Prop) (hk : ∀ (v1 : Int32) (g : dH) (Ig : InvQ g) (e0 : g 0 3 = h0 0 3) (e1 : g 0 4 = h0 0 4) (e2 : g 0 13 = h0 0 13) (e3 : g 0 20 = h0 0 20) (e4 : g 0 21 = h0 0 21), (h0 0 24).toInt ≤ (g 0 24).toInt → Sf (k v1 g) Q)  : ∀ (n : Nat) (v1 : Int32) (h : dH) (I_h : InvQ h) (e0 : h 0 3 = h0 0 3) (e1 : h 0 4 = h0 0 4) (e2 : h 0 13 = h0 0 13) (e3 : h 0 20 = h0 0 20) (e4 : h 0 21 = h0 0 21), (h0 0 24).toInt ≤ (h 0 24).toInt → 160 - (h 0 24).toInt < (n : Int) → Sf (l_X7_both0_5  k n v1 h) Q
  | 0, v1, h, I_h, e0, e1, e2, e3, e4, hi, hm => by have := pq24 I_h; omega
  | n + 1, v1, h, I_h, e0, e1, e2, e3, e4, hi, hm => by
    rw [l_X7_both0_5]
    have pq_h : 0 ≤ (h 0 20).toInt ∧ (h 0 20).toInt ≤ 800 ∧ 0 ≤ (h 0 21).toInt ∧ (h 0 21).toInt ≤ 160 ∧ 0 ≤ (h 0 24).toInt ∧ (h 0 24).toInt ≤ (h 0 22).toInt ∧ (h 0 22).toInt ≤ (h 0 21).toInt ∧ ((h 0 23).toInt = 3 → (h 0 24).toInt < (h 0 22).toInt) := I_h.2
    have yx11 := congrArg Int32.toInt e0
    have yx12 := congrArg Int32.toInt e1
    have yx13 := congrArg Int32.toInt e2
    have yx14 := congrArg Int32.toInt e3
    have yx15 := congrArg Int32.toInt e4
    have tx16 : (97 : Int32).toInt = 97 := by decide
    have tx17 : (110 : Int32).toInt = 110 := by decide
    have tx18 : (100 : Int32).toInt = 100 := by decide
    have tx19 : (0 : Int32).toInt = 0 := by decide
    refine sf_oP (s_X7_isWord h I_h (97 : Int32) (110 : Int32) (100 : Int32) (0 : Int32) (0 : Int32) (0 : Int32) (0 : Int32) (0 : Int32)) (fun r3 pr3 => ?_)
    refine sf_ite (fun c4 => ?_) (fun c5 => ?_)
    · skip
      exact hk v1 h I_h e0 e1 e2 e3 e4 (by first | trivial | omega)
    · skip
      refine sf_oV (s_X7_next h I_h.1 (by omega)) (fun g6 pg6 => ?_)
      obtain ⟨I_g6, ex20, ex21, ex22, ex23, ex24, qg6⟩ := pg6
      try simp only at I_g6 ex20 ex21 ex22 ex23 ex24 qg6
      have yx25 := congrArg Int32.toInt ex20
      have yx26 := congrArg Int32.toInt ex21
      have yx27 := congrArg Int32.toInt ex22
      have yx28 := congrArg Int32.toInt ex23
      have yx29 := congrArg Int32.toInt ex24
      have pq_g6 : 0 ≤ (g6 0 20).toInt ∧ (g6 0 20).toInt ≤ 800 ∧ 0 ≤ (g6 0 21).toInt ∧ (g6 0 21).toInt ≤ 160 ∧ 0 ≤ (g6 0 24).toInt ∧ (g6 0 24).toInt ≤ (g6 0 22).toInt ∧ (g6 0 22).toInt ≤ (g6 0 21).toInt ∧ ((g6 0 23).toInt = 3 → (g6 0 24).toInt < (g6 0 22).toInt) := I_g6.2
      refine sf_oI (s_X7_not0 g6 I_g6 ) (fun r7 g8 pg8 => ?_)
      obtain ⟨I_g8, ex30, ex31, ex32, ex33, ex34, qg8⟩ := pg8
      try simp only at I_g8 ex30 ex31 ex32 ex33 ex34 qg8
      have yx35 := congrArg Int32.toInt ex30
      have yx36 := congrArg Int32.toInt ex31
      have yx37 := congrArg Int32.toInt ex32
      have yx38 := congrArg Int32.toInt ex33
      have yx39 := congrArg Int32.toInt ex34
      have pq_g8 : 0 ≤ (g8 0 20).toInt ∧ (g8 0 20).toInt ≤ 800 ∧ 0 ≤ (g8 0 21).toInt ∧ (g8 0 21).toInt ≤ 160 ∧ 0 ≤ (g8 0 24).toInt ∧ (g8 0 24).toInt ≤ (g8 0 22).toInt ∧ (g8 0 22).toInt ≤ (g8 0 21).toInt ∧ ((g8 0 23).toInt = 3 → (g8 0 24).toInt < (g8 0 22).toInt) := I_g8.2
      refine sf_ite (fun c9 => ?_) (fun c10 => ?_)
      · skip
        exact sl_X7_both0_5    h0 I_h0  k Q hk n (0 : Int32) g8 I_g8 (ex30.trans (ex20.trans e0)) (ex31.trans (ex21.trans e1)) (ex32.trans (ex22.trans e2)) (ex33.trans (ex23.trans e3)) (ex34.trans (ex24.trans e4)) (by first | trivial | omega) (by omega)
      · skip
        refine sf_ite (fun c11 => ?_) (fun c12 => ?_)
        · skip
          exact sl_X7_both0_5    h0 I_h0  k Q hk n (0 : Int32) g8 I_g8 (ex30.trans (ex20.trans e0)) (ex31.trans (ex21.trans e1)) (ex32.trans (ex22.trans e2)) (ex33.trans (ex23.trans e3)) (ex34.trans (ex24.trans e4)) (by first | trivial | omega) (by omega)
        · skip
          have tx40 : (1 : Int32).toInt = 1 := by decide
          exact sl_X7_both0_5    h0 I_h0  k Q hk n (1 : Int32) g8 I_g8 (ex30.trans (ex20.trans e0)) (ex31.trans (ex21.trans e1)) (ex32.trans (ex22.trans e2)) (ex33.trans (ex23.trans e3)) (ex34.trans (ex24.trans e4)) (by first | trivial | omega) (by omega)
theorem s_X7_both0 (h : dH) (I_h : InvQ h)   : Sf (f_X7_both0  h) (fun o => InvQ o.2 ∧ o.2 0 3 = h 0 3 ∧ o.2 0 4 = h 0 4 ∧ o.2 0 13 = h 0 13 ∧ o.2 0 20 = h 0 20 ∧ o.2 0 21 = h 0 21 ∧ (h 0 24).toInt ≤ (o.2 0 24).toInt) := by
  unfold f_X7_both0
  have pq_h : 0 ≤ (h 0 20).toInt ∧ (h 0 20).toInt ≤ 800 ∧ 0 ≤ (h 0 21).toInt ∧ (h 0 21).toInt ≤ 160 ∧ 0 ≤ (h 0 24).toInt ∧ (h 0 24).toInt ≤ (h 0 22).toInt ∧ (h 0 22).toInt ≤ (h 0 21).toInt ∧ ((h 0 23).toInt = 3 → (h 0 24).toInt < (h 0 22).toInt) := I_h.2
  refine sf_oI (s_X7_not0 h I_h ) (fun r1 g2 pg2 => ?_)
  obtain ⟨I_g2, ex1, ex2, ex3, ex4, ex5, qg2⟩ := pg2
  try simp only at I_g2 ex1 ex2 ex3 ex4 ex5 qg2
  have yx6 := congrArg Int32.toInt ex1
  have yx7 := congrArg Int32.toInt ex2
  have yx8 := congrArg Int32.toInt ex3
  have yx9 := congrArg Int32.toInt ex4
  have yx10 := congrArg Int32.toInt ex5
  have pq_g2 : 0 ≤ (g2 0 20).toInt ∧ (g2 0 20).toInt ≤ 800 ∧ 0 ≤ (g2 0 21).toInt ∧ (g2 0 21).toInt ≤ 160 ∧ 0 ≤ (g2 0 24).toInt ∧ (g2 0 24).toInt ≤ (g2 0 22).toInt ∧ (g2 0 22).toInt ≤ (g2 0 21).toInt ∧ ((g2 0 23).toInt = 3 → (g2 0 24).toInt < (g2 0 22).toInt) := I_g2.2
  have := pq24 I_g2
  refine sl_X7_both0_5   g2 I_g2  _ _ (fun v1_13 g15 I_g15 eg15_0 eg15_1 eg15_2 eg15_3 eg15_4 px41 => ?_)  fuel0 r1 g2 I_g2 rfl rfl rfl rfl rfl (by first | trivial | omega) (by have := fuel0_eq; omega)
  have yx42 := congrArg Int32.toInt eg15_0
  have yx43 := congrArg Int32.toInt eg15_1
  have yx44 := congrArg Int32.toInt eg15_2
  have yx45 := congrArg Int32.toInt eg15_3
  have yx46 := congrArg Int32.toInt eg15_4
  have pq_g15 : 0 ≤ (g15 0 20).toInt ∧ (g15 0 20).toInt ≤ 800 ∧ 0 ≤ (g15 0 21).toInt ∧ (g15 0 21).toInt ≤ 160 ∧ 0 ≤ (g15 0 24).toInt ∧ (g15 0 24).toInt ≤ (g15 0 22).toInt ∧ (g15 0 22).toInt ≤ (g15 0 21).toInt ∧ ((g15 0 23).toInt = 3 → (g15 0 24).toInt < (g15 0 22).toInt) := I_g15.2
  exact sf_some (⟨I_g15, (eg15_0.trans ex1), (eg15_1.trans ex2), (eg15_2.trans ex3), (eg15_3.trans ex4), (eg15_4.trans ex5), (show (h 0 24).toInt ≤ (g15 0 24).toInt by omega)⟩)
theorem sl_X7_either0_5   (h0 : dH) (I_h0 : InvQ h0)  (k : Int32 → dH → Option (Int32 × dH)) (Q : Int32 × dH → Prop) (hk : ∀ (v1 : Int32) (g : dH) (Ig : InvQ g) (e0 : g 0 3 = h0 0 3) (e1 : g 0 4 = h0 0 4) (e2 : g 0 13 = h0 0 13) (e3 : g 0 20 = h0 0 20) (e4 : g 0 21 = h0 0 21), (h0 0 24).toInt ≤ (g 0 24).toInt → Sf (k v1 g) Q)  : ∀ (n : Nat) (v1 : Int32) (h : dH) (I_h : InvQ h) (e0 : h 0 3 = h0 0 3) (e1 : h 0 4 = h0 0 4) (e2 : h 0 13 = h0 0 13) (e3 : h 0 20 = h0 0 20) (e4 : h 0 21 = h0 0 21), (h0 0 24).toInt ≤ (h 0 24).toInt → 160 - (h 0 24).toInt < (n : Int) → Sf (l_X7_either0_5  k n v1 h) Q
  | 0, v1, h, I_h, e0, e1, e2, e3, e4, hi, hm => by have := pq24 I_h; omega
  | n + 1, v1, h, I_h, e0, e1, e2, e3, e4, hi, hm => by
    rw [l_X7_either0_5]
    have pq_h : 0 ≤ (h 0 20).toInt ∧ (h 0 20).toInt ≤ 800 ∧ 0 ≤ (h 0 21).toInt ∧ (h 0 21).toInt ≤ 160 ∧ 0 ≤ (h 0 24).toInt ∧ (h 0 24).toInt ≤ (h 0 22).toInt ∧ (h 0 22).toInt ≤ (h 0 21).toInt ∧ ((h 0 23).toInt = 3 → (h 0 24).toInt < (h 0 22).toInt) := I_h.2
    have yx11 := congrArg Int32.toInt e0
    have yx12 := congrArg Int32.toInt e1
    have yx13 := congrArg Int32.toInt e2
    have yx14 := congrArg Int32.toInt e3
    have yx15 := congrArg Int32.toInt e4
    have tx16 : (111 : Int32).toInt = 111 := by decide
    have tx17 : (114 : Int32).toInt = 114 := by decide
    have tx18 : (0 : Int32).toInt = 0 := by decide
    refine sf_oP (s_X7_isWord h I_h (111 : Int32) (114 : Int32) (0 : Int32) (0 : Int32) (0 : Int32) (0 : Int32) (0 : Int32) (0 : Int32)) (fun r3 pr3 => ?_)
    refine sf_ite (fun c4 => ?_) (fun c5 => ?_)
    · skip
      exact hk v1 h I_h e0 e1 e2 e3 e4 (by first | trivial | omega)
    · skip
      refine sf_oV (s_X7_next h I_h.1 (by omega)) (fun g6 pg6 => ?_)
      obtain ⟨I_g6, ex19, ex20, ex21, ex22, ex23, qg6⟩ := pg6
      try simp only at I_g6 ex19 ex20 ex21 ex22 ex23 qg6
      have yx24 := congrArg Int32.toInt ex19
      have yx25 := congrArg Int32.toInt ex20
      have yx26 := congrArg Int32.toInt ex21
      have yx27 := congrArg Int32.toInt ex22
      have yx28 := congrArg Int32.toInt ex23
      have pq_g6 : 0 ≤ (g6 0 20).toInt ∧ (g6 0 20).toInt ≤ 800 ∧ 0 ≤ (g6 0 21).toInt ∧ (g6 0 21).toInt ≤ 160 ∧ 0 ≤ (g6 0 24).toInt ∧ (g6 0 24).toInt ≤ (g6 0 22).toInt ∧ (g6 0 22).toInt ≤ (g6 0 21).toInt ∧ ((g6 0 23).toInt = 3 → (g6 0 24).toInt < (g6 0 22).toInt) := I_g6.2
      refine sf_oI (s_X7_both0 g6 I_g6 ) (fun r7 g8 pg8 => ?_)
      obtain ⟨I_g8, ex29, ex30, ex31, ex32, ex33, qg8⟩ := pg8
      try simp only at I_g8 ex29 ex30 ex31 ex32 ex33 qg8
      have yx34 := congrArg Int32.toInt ex29
      have yx35 := congrArg Int32.toInt ex30
      have yx36 := congrArg Int32.toInt ex31
      have yx37 := congrArg Int32.toInt ex32
      have yx38 := congrArg Int32.toInt ex33
      have pq_g8 : 0 ≤ (g8 0 20).toInt ∧ (g8 0 20).toInt ≤ 800 ∧ 0 ≤ (g8 0 21).toInt ∧ (g8 0 21).toInt ≤ 160 ∧ 0 ≤ (g8 0 24).toInt ∧ (g8 0 24).toInt ≤ (g8 0 22).toInt ∧ (g8 0 22).toInt ≤ (g8 0 21).toInt ∧ ((g8 0 23).toInt = 3 → (g8 0 24).toInt < (g8 0 22).toInt) := I_g8.2
      refine sf_ite (fun c9 => ?_) (fun c10 => ?_)
      · skip
        refine sf_ite (fun c11 => ?_) (fun c12 => ?_)
        · skip
          exact sl_X7_either0_5    h0 I_h0  k Q hk n (0 : Int32) g8 I_g8 (ex29.trans (ex19.trans e0)) (ex30.trans (ex20.trans e1)) (ex31.trans (ex21.trans e2)) (ex32.trans (ex22.trans e3)) (ex33.trans (ex23.trans e4)) (by first | trivial | omega) (by omega)
        · skip
          have tx39 : (1 : Int32).toInt = 1 := by decide
          exact sl_X7_either0_5    h0 I_h0  k Q hk n (1 : Int32) g8 I_g8 (ex29.trans (ex19.trans e0)) (ex30.trans (ex20.trans e1)) (ex31.trans (ex21.trans e2)) (ex32.trans (ex22.trans e3)) (ex33.trans (ex23.trans e4)) (by first | trivial | omega) (by omega)
      · skip
        have tx40 : (1 : Int32).toInt = 1 := by decide
        exact sl_X7_either0_5    h0 I_h0  k Q hk n (1 : Int32) g8 I_g8 (ex29.trans (ex19.trans e0)) (ex30.trans (ex20.trans e1)) (ex31.trans (ex21.trans e2)) (ex32.trans (ex22.trans e3)) (ex33.trans (ex23.trans e4)) (by first | trivial | omega) (by omega)
theorem s_X7_either0 (h : dH) (I_h : InvQ h)   : Sf (f_X7_either0  h) (fun o => InvQ o.2 ∧ o.2 0 3 = h 0 3 ∧ o.2 0 4 = h 0 4 ∧ o.2 0 13 = h 0 13 ∧ o.2 0 20 = h 0 20 ∧ o.2 0 21 = h 0 21 ∧ (h 0 24).toInt ≤ (o.2 0 24).toInt) := by
  unfold f_X7_either0
  have pq_h : 0 ≤ (h 0 20).toInt ∧ (h 0 20).toInt ≤ 800 ∧ 0 ≤ (h 0 21).toInt ∧ (h 0 21).toInt ≤ 160 ∧ 0 ≤ (h 0 24).toInt ∧ (h 0 24).toInt ≤ (h 0 22).toInt ∧ (h 0 22).toInt ≤ (h 0 21).toInt ∧ ((h 0 23).toInt = 3 → (h 0 24).toInt < (h 0 22).toInt) := I_h.2
  refine sf_oI (s_X7_both0 h I_h ) (fun r1 g2 pg2 => ?_)
  obtain ⟨I_g2, ex1, ex2, ex3, ex4, ex5, qg2⟩ := pg2
  try simp only at I_g2 ex1 ex2 ex3 ex4 ex5 qg2
  have yx6 := congrArg Int32.toInt ex1
  have yx7 := congrArg Int32.toInt ex2
  have yx8 := congrArg Int32.toInt ex3
  have yx9 := congrArg Int32.toInt ex4
  have yx10 := congrArg Int32.toInt ex5
  have pq_g2 : 0 ≤ (g2 0 20).toInt ∧ (g2 0 20).toInt ≤ 800 ∧ 0 ≤ (g2 0 21).toInt ∧ (g2 0 21).toInt ≤ 160 ∧ 0 ≤ (g2 0 24).toInt ∧ (g2 0 24).toInt ≤ (g2 0 22).toInt ∧ (g2 0 22).toInt ≤ (g2 0 21).toInt ∧ ((g2 0 23).toInt = 3 → (g2 0 24).toInt < (g2 0 22).toInt) := I_g2.2
  have := pq24 I_g2
  refine sl_X7_either0_5   g2 I_g2  _ _ (fun v1_13 g15 I_g15 eg15_0 eg15_1 eg15_2 eg15_3 eg15_4 px41 => ?_)  fuel0 r1 g2 I_g2 rfl rfl rfl rfl rfl (by first | trivial | omega) (by have := fuel0_eq; omega)
  have yx42 := congrArg Int32.toInt eg15_0
  have yx43 := congrArg Int32.toInt eg15_1
  have yx44 := congrArg Int32.toInt eg15_2
  have yx45 := congrArg Int32.toInt eg15_3
  have yx46 := congrArg Int32.toInt eg15_4
  have pq_g15 : 0 ≤ (g15 0 20).toInt ∧ (g15 0 20).toInt ≤ 800 ∧ 0 ≤ (g15 0 21).toInt ∧ (g15 0 21).toInt ≤ 160 ∧ 0 ≤ (g15 0 24).toInt ∧ (g15 0 24).toInt ≤ (g15 0 22).toInt ∧ (g15 0 22).toInt ≤ (g15 0 21).toInt ∧ ((g15 0 23).toInt = 3 → (g15 0 24).toInt < (g15 0 22).toInt) := I_g15.2
  exact sf_some (⟨I_g15, (eg15_0.trans ex1), (eg15_1.trans ex2), (eg15_2.trans ex3), (eg15_3.trans ex4), (eg15_4.trans ex5), (show (h 0 24).toInt ≤ (g15 0 24).toInt by omega)⟩)
theorem s_X7_part (h : dH) (I_h : InvQ h) (v1 : Int32)  : Sf (f_X7_part v1 h) (fun o => InvQ o.2 ∧ o.2 0 3 = h 0 3 ∧ o.2 0 4 = h 0 4 ∧ o.2 0 13 = h 0 13 ∧ o.2 0 20 = h 0 20 ∧ o.2 0 21 = h 0 21 ∧ (h 0 24).toInt ≤ (o.2 0 24).toInt) := by
  unfold f_X7_part
  have pq_h : 0 ≤ (h 0 20).toInt ∧ (h 0 20).toInt ≤ 800 ∧ 0 ≤ (h 0 21).toInt ∧ (h 0 21).toInt ≤ 160 ∧ 0 ≤ (h 0 24).toInt ∧ (h 0 24).toInt ≤ (h 0 22).toInt ∧ (h 0 22).toInt ≤ (h 0 21).toInt ∧ ((h 0 23).toInt = 3 → (h 0 24).toInt < (h 0 22).toInt) := I_h.2
  have u_v1 := Int32.toInt_lt v1
  have w_v1 := Int32.le_toInt v1
  refine sf_ite (fun c1 => ?_) (fun c2 => ?_)
  · skip
    refine sf_oV (s_X7_fail h I_h ) (fun g3 pg3 => ?_)
    obtain ⟨I_g3, ex1, ex2, ex3, ex4, ex5, ex6, ex7, ex8, qg3⟩ := pg3
    try simp only at I_g3 ex1 ex2 ex3 ex4 ex5 ex6 ex7 ex8 qg3
    have yx9 := congrArg Int32.toInt ex1
    have yx10 := congrArg Int32.toInt ex2
    have yx11 := congrArg Int32.toInt ex3
    have yx12 := congrArg Int32.toInt ex4
    have yx13 := congrArg Int32.toInt ex5
    have yx14 := congrArg Int32.toInt ex6
    have yx15 := congrArg Int32.toInt ex7
    have yx16 := congrArg Int32.toInt ex8
    have pq_g3 : 0 ≤ (g3 0 20).toInt ∧ (g3 0 20).toInt ≤ 800 ∧ 0 ≤ (g3 0 21).toInt ∧ (g3 0 21).toInt ≤ 160 ∧ 0 ≤ (g3 0 24).toInt ∧ (g3 0 24).toInt ≤ (g3 0 22).toInt ∧ (g3 0 22).toInt ≤ (g3 0 21).toInt ∧ ((g3 0 23).toInt = 3 → (g3 0 24).toInt < (g3 0 22).toInt) := I_g3.2
    refine sf_ite (fun c4 => ?_) (fun c5 => ?_)
    · skip
      refine sf_oV (s_X7_next g3 I_g3.1 (by omega)) (fun g6 pg6 => ?_)
      obtain ⟨I_g6, ex17, ex18, ex19, ex20, ex21, qg6⟩ := pg6
      try simp only at I_g6 ex17 ex18 ex19 ex20 ex21 qg6
      have yx22 := congrArg Int32.toInt ex17
      have yx23 := congrArg Int32.toInt ex18
      have yx24 := congrArg Int32.toInt ex19
      have yx25 := congrArg Int32.toInt ex20
      have yx26 := congrArg Int32.toInt ex21
      have pq_g6 : 0 ≤ (g6 0 20).toInt ∧ (g6 0 20).toInt ≤ 800 ∧ 0 ≤ (g6 0 21).toInt ∧ (g6 0 21).toInt ≤ 160 ∧ 0 ≤ (g6 0 24).toInt ∧ (g6 0 24).toInt ≤ (g6 0 22).toInt ∧ (g6 0 22).toInt ≤ (g6 0 21).toInt ∧ ((g6 0 23).toInt = 3 → (g6 0 24).toInt < (g6 0 22).toInt) := I_g6.2
      refine sf_ite (fun c7 => ?_) (fun c8 => ?_)
      · skip
        refine sf_oI (s_X7_either0 g6 I_g6 ) (fun r9 g10 pg10 => ?_)
        obtain ⟨I_g10, ex27, ex28, ex29, ex30, ex31, qg10⟩ := pg10
        try simp only at I_g10 ex27 ex28 ex29 ex30 ex31 qg10
        have yx32 := congrArg Int32.toInt ex27
        have yx33 := congrArg Int32.toInt ex28
        have yx34 := congrArg Int32.toInt ex29
        have yx35 := congrArg Int32.toInt ex30
        have yx36 := congrArg Int32.toInt ex31
        have pq_g10 : 0 ≤ (g10 0 20).toInt ∧ (g10 0 20).toInt ≤ 800 ∧ 0 ≤ (g10 0 21).toInt ∧ (g10 0 21).toInt ≤ 160 ∧ 0 ≤ (g10 0 24).toInt ∧ (g10 0 24).toInt ≤ (g10 0 22).toInt ∧ (g10 0 22).toInt ≤ (g10 0 21).toInt ∧ ((g10 0 23).toInt = 3 → (g10 0 24).toInt < (g10 0 22).toInt) := I_g10.2
        have tx37 : (59 : Int32).toInt = 59 := by decide
        refine sf_oP (s_X7_isSign g10 I_g10 (59 : Int32)) (fun r11 pr11 => ?_)
        refine sf_ite (fun c12 => ?_) (fun c13 => ?_)
        · skip
          refine sf_oV (s_X7_fail g10 I_g10 ) (fun g14 pg14 => ?_)
          obtain ⟨I_g14, ex38, ex39, ex40, ex41, ex42, ex43, ex44, ex45, qg14⟩ := pg14
          try simp only at I_g14 ex38 ex39 ex40 ex41 ex42 ex43 ex44 ex45 qg14
          have yx46 := congrArg Int32.toInt ex38
          have yx47 := congrArg Int32.toInt ex39
          have yx48 := congrArg Int32.toInt ex40
          have yx49 := congrArg Int32.toInt ex41
          have yx50 := congrArg Int32.toInt ex42
          have yx51 := congrArg Int32.toInt ex43
          have yx52 := congrArg Int32.toInt ex44
          have yx53 := congrArg Int32.toInt ex45
          have pq_g14 : 0 ≤ (g14 0 20).toInt ∧ (g14 0 20).toInt ≤ 800 ∧ 0 ≤ (g14 0 21).toInt ∧ (g14 0 21).toInt ≤ 160 ∧ 0 ≤ (g14 0 24).toInt ∧ (g14 0 24).toInt ≤ (g14 0 22).toInt ∧ (g14 0 22).toInt ≤ (g14 0 21).toInt ∧ ((g14 0 23).toInt = 3 → (g14 0 24).toInt < (g14 0 22).toInt) := I_g14.2
          refine sf_ite (fun c15 => ?_) (fun c16 => ?_)
          · skip
            refine sf_oV (s_X7_next g14 I_g14.1 (by omega)) (fun g17 pg17 => ?_)
            obtain ⟨I_g17, ex54, ex55, ex56, ex57, ex58, qg17⟩ := pg17
            try simp only at I_g17 ex54 ex55 ex56 ex57 ex58 qg17
            have yx59 := congrArg Int32.toInt ex54
            have yx60 := congrArg Int32.toInt ex55
            have yx61 := congrArg Int32.toInt ex56
            have yx62 := congrArg Int32.toInt ex57
            have yx63 := congrArg Int32.toInt ex58
            have pq_g17 : 0 ≤ (g17 0 20).toInt ∧ (g17 0 20).toInt ≤ 800 ∧ 0 ≤ (g17 0 21).toInt ∧ (g17 0 21).toInt ≤ 160 ∧ 0 ≤ (g17 0 24).toInt ∧ (g17 0 24).toInt ≤ (g17 0 22).toInt ∧ (g17 0 22).toInt ≤ (g17 0 21).toInt ∧ ((g17 0 23).toInt = 3 → (g17 0 24).toInt < (g17 0 22).toInt) := I_g17.2
            exact sf_some (⟨I_g17, (ex54.trans (ex38.trans (ex27.trans (ex17.trans ex1)))), (ex55.trans (ex39.trans (ex28.trans (ex18.trans ex2)))), (ex56.trans (ex40.trans (ex29.trans (ex19.trans ex3)))), (ex57.trans (ex41.trans (ex30.trans (ex20.trans ex4)))), (ex58.trans (ex42.trans (ex31.trans (ex21.trans ex5)))), (show (h 0 24).toInt ≤ (g17 0 24).toInt by omega)⟩)
          · skip
            exact sf_some (⟨I_g14, (ex38.trans (ex27.trans (ex17.trans ex1))), (ex39.trans (ex28.trans (ex18.trans ex2))), (ex40.trans (ex29.trans (ex19.trans ex3))), (ex41.trans (ex30.trans (ex20.trans ex4))), (ex42.trans (ex31.trans (ex21.trans ex5))), (show (h 0 24).toInt ≤ (g14 0 24).toInt by omega)⟩)
        · skip
          refine sf_ite (fun c18 => ?_) (fun c19 => ?_)
          · skip
            refine sf_oV (s_X7_next g10 I_g10.1 (by omega)) (fun g20 pg20 => ?_)
            obtain ⟨I_g20, ex64, ex65, ex66, ex67, ex68, qg20⟩ := pg20
            try simp only at I_g20 ex64 ex65 ex66 ex67 ex68 qg20
            have yx69 := congrArg Int32.toInt ex64
            have yx70 := congrArg Int32.toInt ex65
            have yx71 := congrArg Int32.toInt ex66
            have yx72 := congrArg Int32.toInt ex67
            have yx73 := congrArg Int32.toInt ex68
            have pq_g20 : 0 ≤ (g20 0 20).toInt ∧ (g20 0 20).toInt ≤ 800 ∧ 0 ≤ (g20 0 21).toInt ∧ (g20 0 21).toInt ≤ 160 ∧ 0 ≤ (g20 0 24).toInt ∧ (g20 0 24).toInt ≤ (g20 0 22).toInt ∧ (g20 0 22).toInt ≤ (g20 0 21).toInt ∧ ((g20 0 23).toInt = 3 → (g20 0 24).toInt < (g20 0 22).toInt) := I_g20.2
            exact sf_some (⟨I_g20, (ex64.trans (ex27.trans (ex17.trans ex1))), (ex65.trans (ex28.trans (ex18.trans ex2))), (ex66.trans (ex29.trans (ex19.trans ex3))), (ex67.trans (ex30.trans (ex20.trans ex4))), (ex68.trans (ex31.trans (ex21.trans ex5))), (show (h 0 24).toInt ≤ (g20 0 24).toInt by omega)⟩)
          · skip
            exact sf_some (⟨I_g10, (ex27.trans (ex17.trans ex1)), (ex28.trans (ex18.trans ex2)), (ex29.trans (ex19.trans ex3)), (ex30.trans (ex20.trans ex4)), (ex31.trans (ex21.trans ex5)), (show (h 0 24).toInt ≤ (g10 0 24).toInt by omega)⟩)
      · skip
        have tx74 : (59 : Int32).toInt = 59 := by decide
        refine sf_oP (s_X7_isSign g6 I_g6 (59 : Int32)) (fun r21 pr21 => ?_)
        refine sf_ite (fun c22 => ?_) (fun c23 => ?_)
        · skip
          refine sf_oV (s_X7_fail g6 I_g6 ) (fun g24 pg24 => ?_)
          obtain ⟨I_g24, ex75, ex76, ex77, ex78, ex79, ex80, ex81, ex82, qg24⟩ := pg24
          try simp only at I_g24 ex75 ex76 ex77 ex78 ex79 ex80 ex81 ex82 qg24
          have yx83 := congrArg Int32.toInt ex75
          have yx84 := congrArg Int32.toInt ex76
          have yx85 := congrArg Int32.toInt ex77
          have yx86 := congrArg Int32.toInt ex78
          have yx87 := congrArg Int32.toInt ex79
          have yx88 := congrArg Int32.toInt ex80
          have yx89 := congrArg Int32.toInt ex81
          have yx90 := congrArg Int32.toInt ex82
          have pq_g24 : 0 ≤ (g24 0 20).toInt ∧ (g24 0 20).toInt ≤ 800 ∧ 0 ≤ (g24 0 21).toInt ∧ (g24 0 21).toInt ≤ 160 ∧ 0 ≤ (g24 0 24).toInt ∧ (g24 0 24).toInt ≤ (g24 0 22).toInt ∧ (g24 0 22).toInt ≤ (g24 0 21).toInt ∧ ((g24 0 23).toInt = 3 → (g24 0 24).toInt < (g24 0 22).toInt) := I_g24.2
          refine sf_ite (fun c25 => ?_) (fun c26 => ?_)
          · skip
            refine sf_oV (s_X7_next g24 I_g24.1 (by omega)) (fun g27 pg27 => ?_)
            obtain ⟨I_g27, ex91, ex92, ex93, ex94, ex95, qg27⟩ := pg27
            try simp only at I_g27 ex91 ex92 ex93 ex94 ex95 qg27
            have yx96 := congrArg Int32.toInt ex91
            have yx97 := congrArg Int32.toInt ex92
            have yx98 := congrArg Int32.toInt ex93
            have yx99 := congrArg Int32.toInt ex94
            have yx100 := congrArg Int32.toInt ex95
            have pq_g27 : 0 ≤ (g27 0 20).toInt ∧ (g27 0 20).toInt ≤ 800 ∧ 0 ≤ (g27 0 21).toInt ∧ (g27 0 21).toInt ≤ 160 ∧ 0 ≤ (g27 0 24).toInt ∧ (g27 0 24).toInt ≤ (g27 0 22).toInt ∧ (g27 0 22).toInt ≤ (g27 0 21).toInt ∧ ((g27 0 23).toInt = 3 → (g27 0 24).toInt < (g27 0 22).toInt) := I_g27.2
            have tx101 : (0 : Int32).toInt = 0 := by decide
            exact sf_some (⟨I_g27, (ex91.trans (ex75.trans (ex17.trans ex1))), (ex92.trans (ex76.trans (ex18.trans ex2))), (ex93.trans (ex77.trans (ex19.trans ex3))), (ex94.trans (ex78.trans (ex20.trans ex4))), (ex95.trans (ex79.trans (ex21.trans ex5))), (show (h 0 24).toInt ≤ (g27 0 24).toInt by omega)⟩)
          · skip
            have tx102 : (0 : Int32).toInt = 0 := by decide
            exact sf_some (⟨I_g24, (ex75.trans (ex17.trans ex1)), (ex76.trans (ex18.trans ex2)), (ex77.trans (ex19.trans ex3)), (ex78.trans (ex20.trans ex4)), (ex79.trans (ex21.trans ex5)), (show (h 0 24).toInt ≤ (g24 0 24).toInt by omega)⟩)
        · skip
          refine sf_ite (fun c28 => ?_) (fun c29 => ?_)
          · skip
            refine sf_oV (s_X7_next g6 I_g6.1 (by omega)) (fun g30 pg30 => ?_)
            obtain ⟨I_g30, ex103, ex104, ex105, ex106, ex107, qg30⟩ := pg30
            try simp only at I_g30 ex103 ex104 ex105 ex106 ex107 qg30
            have yx108 := congrArg Int32.toInt ex103
            have yx109 := congrArg Int32.toInt ex104
            have yx110 := congrArg Int32.toInt ex105
            have yx111 := congrArg Int32.toInt ex106
            have yx112 := congrArg Int32.toInt ex107
            have pq_g30 : 0 ≤ (g30 0 20).toInt ∧ (g30 0 20).toInt ≤ 800 ∧ 0 ≤ (g30 0 21).toInt ∧ (g30 0 21).toInt ≤ 160 ∧ 0 ≤ (g30 0 24).toInt ∧ (g30 0 24).toInt ≤ (g30 0 22).toInt ∧ (g30 0 22).toInt ≤ (g30 0 21).toInt ∧ ((g30 0 23).toInt = 3 → (g30 0 24).toInt < (g30 0 22).toInt) := I_g30.2
            have tx113 : (0 : Int32).toInt = 0 := by decide
            exact sf_some (⟨I_g30, (ex103.trans (ex17.trans ex1)), (ex104.trans (ex18.trans ex2)), (ex105.trans (ex19.trans ex3)), (ex106.trans (ex20.trans ex4)), (ex107.trans (ex21.trans ex5)), (show (h 0 24).toInt ≤ (g30 0 24).toInt by omega)⟩)
          · skip
            have tx114 : (0 : Int32).toInt = 0 := by decide
            exact sf_some (⟨I_g6, (ex17.trans ex1), (ex18.trans ex2), (ex19.trans ex3), (ex20.trans ex4), (ex21.trans ex5), (show (h 0 24).toInt ≤ (g6 0 24).toInt by omega)⟩)
    · skip
      refine sf_ite (fun c31 => ?_) (fun c32 => ?_)
      · skip
        refine sf_oI (s_X7_either0 g3 I_g3 ) (fun r33 g34 pg34 => ?_)
        obtain ⟨I_g34, ex115, ex116, ex117, ex118, ex119, qg34⟩ := pg34
        try simp only at I_g34 ex115 ex116 ex117 ex118 ex119 qg34
        have yx120 := congrArg Int32.toInt ex115
        have yx121 := congrArg Int32.toInt ex116
        have yx122 := congrArg Int32.toInt ex117
        have yx123 := congrArg Int32.toInt ex118
        have yx124 := congrArg Int32.toInt ex119
        have pq_g34 : 0 ≤ (g34 0 20).toInt ∧ (g34 0 20).toInt ≤ 800 ∧ 0 ≤ (g34 0 21).toInt ∧ (g34 0 21).toInt ≤ 160 ∧ 0 ≤ (g34 0 24).toInt ∧ (g34 0 24).toInt ≤ (g34 0 22).toInt ∧ (g34 0 22).toInt ≤ (g34 0 21).toInt ∧ ((g34 0 23).toInt = 3 → (g34 0 24).toInt < (g34 0 22).toInt) := I_g34.2
        have tx125 : (59 : Int32).toInt = 59 := by decide
        refine sf_oP (s_X7_isSign g34 I_g34 (59 : Int32)) (fun r35 pr35 => ?_)
        refine sf_ite (fun c36 => ?_) (fun c37 => ?_)
        · skip
          refine sf_oV (s_X7_fail g34 I_g34 ) (fun g38 pg38 => ?_)
          obtain ⟨I_g38, ex126, ex127, ex128, ex129, ex130, ex131, ex132, ex133, qg38⟩ := pg38
          try simp only at I_g38 ex126 ex127 ex128 ex129 ex130 ex131 ex132 ex133 qg38
          have yx134 := congrArg Int32.toInt ex126
          have yx135 := congrArg Int32.toInt ex127
          have yx136 := congrArg Int32.toInt ex128
          have yx137 := congrArg Int32.toInt ex129
          have yx138 := congrArg Int32.toInt ex130
          have yx139 := congrArg Int32.toInt ex131
          have yx140 := congrArg Int32.toInt ex132
          have yx141 := congrArg Int32.toInt ex133
          have pq_g38 : 0 ≤ (g38 0 20).toInt ∧ (g38 0 20).toInt ≤ 800 ∧ 0 ≤ (g38 0 21).toInt ∧ (g38 0 21).toInt ≤ 160 ∧ 0 ≤ (g38 0 24).toInt ∧ (g38 0 24).toInt ≤ (g38 0 22).toInt ∧ (g38 0 22).toInt ≤ (g38 0 21).toInt ∧ ((g38 0 23).toInt = 3 → (g38 0 24).toInt < (g38 0 22).toInt) := I_g38.2
          refine sf_ite (fun c39 => ?_) (fun c40 => ?_)
          · skip
            refine sf_oV (s_X7_next g38 I_g38.1 (by omega)) (fun g41 pg41 => ?_)
            obtain ⟨I_g41, ex142, ex143, ex144, ex145, ex146, qg41⟩ := pg41
            try simp only at I_g41 ex142 ex143 ex144 ex145 ex146 qg41
            have yx147 := congrArg Int32.toInt ex142
            have yx148 := congrArg Int32.toInt ex143
            have yx149 := congrArg Int32.toInt ex144
            have yx150 := congrArg Int32.toInt ex145
            have yx151 := congrArg Int32.toInt ex146
            have pq_g41 : 0 ≤ (g41 0 20).toInt ∧ (g41 0 20).toInt ≤ 800 ∧ 0 ≤ (g41 0 21).toInt ∧ (g41 0 21).toInt ≤ 160 ∧ 0 ≤ (g41 0 24).toInt ∧ (g41 0 24).toInt ≤ (g41 0 22).toInt ∧ (g41 0 22).toInt ≤ (g41 0 21).toInt ∧ ((g41 0 23).toInt = 3 → (g41 0 24).toInt < (g41 0 22).toInt) := I_g41.2
            exact sf_some (⟨I_g41, (ex142.trans (ex126.trans (ex115.trans ex1))), (ex143.trans (ex127.trans (ex116.trans ex2))), (ex144.trans (ex128.trans (ex117.trans ex3))), (ex145.trans (ex129.trans (ex118.trans ex4))), (ex146.trans (ex130.trans (ex119.trans ex5))), (show (h 0 24).toInt ≤ (g41 0 24).toInt by omega)⟩)
          · skip
            exact sf_some (⟨I_g38, (ex126.trans (ex115.trans ex1)), (ex127.trans (ex116.trans ex2)), (ex128.trans (ex117.trans ex3)), (ex129.trans (ex118.trans ex4)), (ex130.trans (ex119.trans ex5)), (show (h 0 24).toInt ≤ (g38 0 24).toInt by omega)⟩)
        · skip
          refine sf_ite (fun c42 => ?_) (fun c43 => ?_)
          · skip
            refine sf_oV (s_X7_next g34 I_g34.1 (by omega)) (fun g44 pg44 => ?_)
            obtain ⟨I_g44, ex152, ex153, ex154, ex155, ex156, qg44⟩ := pg44
            try simp only at I_g44 ex152 ex153 ex154 ex155 ex156 qg44
            have yx157 := congrArg Int32.toInt ex152
            have yx158 := congrArg Int32.toInt ex153
            have yx159 := congrArg Int32.toInt ex154
            have yx160 := congrArg Int32.toInt ex155
            have yx161 := congrArg Int32.toInt ex156
            have pq_g44 : 0 ≤ (g44 0 20).toInt ∧ (g44 0 20).toInt ≤ 800 ∧ 0 ≤ (g44 0 21).toInt ∧ (g44 0 21).toInt ≤ 160 ∧ 0 ≤ (g44 0 24).toInt ∧ (g44 0 24).toInt ≤ (g44 0 22).toInt ∧ (g44 0 22).toInt ≤ (g44 0 21).toInt ∧ ((g44 0 23).toInt = 3 → (g44 0 24).toInt < (g44 0 22).toInt) := I_g44.2
            exact sf_some (⟨I_g44, (ex152.trans (ex115.trans ex1)), (ex153.trans (ex116.trans ex2)), (ex154.trans (ex117.trans ex3)), (ex155.trans (ex118.trans ex4)), (ex156.trans (ex119.trans ex5)), (show (h 0 24).toInt ≤ (g44 0 24).toInt by omega)⟩)
          · skip
            exact sf_some (⟨I_g34, (ex115.trans ex1), (ex116.trans ex2), (ex117.trans ex3), (ex118.trans ex4), (ex119.trans ex5), (show (h 0 24).toInt ≤ (g34 0 24).toInt by omega)⟩)
      · skip
        have tx162 : (59 : Int32).toInt = 59 := by decide
        refine sf_oP (s_X7_isSign g3 I_g3 (59 : Int32)) (fun r45 pr45 => ?_)
        refine sf_ite (fun c46 => ?_) (fun c47 => ?_)
        · skip
          refine sf_oV (s_X7_fail g3 I_g3 ) (fun g48 pg48 => ?_)
          obtain ⟨I_g48, ex163, ex164, ex165, ex166, ex167, ex168, ex169, ex170, qg48⟩ := pg48
          try simp only at I_g48 ex163 ex164 ex165 ex166 ex167 ex168 ex169 ex170 qg48
          have yx171 := congrArg Int32.toInt ex163
          have yx172 := congrArg Int32.toInt ex164
          have yx173 := congrArg Int32.toInt ex165
          have yx174 := congrArg Int32.toInt ex166
          have yx175 := congrArg Int32.toInt ex167
          have yx176 := congrArg Int32.toInt ex168
          have yx177 := congrArg Int32.toInt ex169
          have yx178 := congrArg Int32.toInt ex170
          have pq_g48 : 0 ≤ (g48 0 20).toInt ∧ (g48 0 20).toInt ≤ 800 ∧ 0 ≤ (g48 0 21).toInt ∧ (g48 0 21).toInt ≤ 160 ∧ 0 ≤ (g48 0 24).toInt ∧ (g48 0 24).toInt ≤ (g48 0 22).toInt ∧ (g48 0 22).toInt ≤ (g48 0 21).toInt ∧ ((g48 0 23).toInt = 3 → (g48 0 24).toInt < (g48 0 22).toInt) := I_g48.2
          refine sf_ite (fun c49 => ?_) (fun c50 => ?_)
          · skip
            refine sf_oV (s_X7_next g48 I_g48.1 (by omega)) (fun g51 pg51 => ?_)
            obtain ⟨I_g51, ex179, ex180, ex181, ex182, ex183, qg51⟩ := pg51
            try simp only at I_g51 ex179 ex180 ex181 ex182 ex183 qg51
            have yx184 := congrArg Int32.toInt ex179
            have yx185 := congrArg Int32.toInt ex180
            have yx186 := congrArg Int32.toInt ex181
            have yx187 := congrArg Int32.toInt ex182
            have yx188 := congrArg Int32.toInt ex183
            have pq_g51 : 0 ≤ (g51 0 20).toInt ∧ (g51 0 20).toInt ≤ 800 ∧ 0 ≤ (g51 0 21).toInt ∧ (g51 0 21).toInt ≤ 160 ∧ 0 ≤ (g51 0 24).toInt ∧ (g51 0 24).toInt ≤ (g51 0 22).toInt ∧ (g51 0 22).toInt ≤ (g51 0 21).toInt ∧ ((g51 0 23).toInt = 3 → (g51 0 24).toInt < (g51 0 22).toInt) := I_g51.2
            have tx189 : (0 : Int32).toInt = 0 := by decide
            exact sf_some (⟨I_g51, (ex179.trans (ex163.trans ex1)), (ex180.trans (ex164.trans ex2)), (ex181.trans (ex165.trans ex3)), (ex182.trans (ex166.trans ex4)), (ex183.trans (ex167.trans ex5)), (show (h 0 24).toInt ≤ (g51 0 24).toInt by omega)⟩)
          · skip
            have tx190 : (0 : Int32).toInt = 0 := by decide
            exact sf_some (⟨I_g48, (ex163.trans ex1), (ex164.trans ex2), (ex165.trans ex3), (ex166.trans ex4), (ex167.trans ex5), (show (h 0 24).toInt ≤ (g48 0 24).toInt by omega)⟩)
        · skip
          refine sf_ite (fun c52 => ?_) (fun c53 => ?_)
          · skip
            refine sf_oV (s_X7_next g3 I_g3.1 (by omega)) (fun g54 pg54 => ?_)
            obtain ⟨I_g54, ex191, ex192, ex193, ex194, ex195, qg54⟩ := pg54
            try simp only at I_g54 ex191 ex192 ex193 ex194 ex195 qg54
            have yx196 := congrArg Int32.toInt ex191
            have yx197 := congrArg Int32.toInt ex192
            have yx198 := congrArg Int32.toInt ex193
            have yx199 := congrArg Int32.toInt ex194
            have yx200 := congrArg Int32.toInt ex195
            have pq_g54 : 0 ≤ (g54 0 20).toInt ∧ (g54 0 20).toInt ≤ 800 ∧ 0 ≤ (g54 0 21).toInt ∧ (g54 0 21).toInt ≤ 160 ∧ 0 ≤ (g54 0 24).toInt ∧ (g54 0 24).toInt ≤ (g54 0 22).toInt ∧ (g54 0 22).toInt ≤ (g54 0 21).toInt ∧ ((g54 0 23).toInt = 3 → (g54 0 24).toInt < (g54 0 22).toInt) := I_g54.2
            have tx201 : (0 : Int32).toInt = 0 := by decide
            exact sf_some (⟨I_g54, (ex191.trans ex1), (ex192.trans ex2), (ex193.trans ex3), (ex194.trans ex4), (ex195.trans ex5), (show (h 0 24).toInt ≤ (g54 0 24).toInt by omega)⟩)
          · skip
            have tx202 : (0 : Int32).toInt = 0 := by decide
            exact sf_some (⟨I_g3, ex1, ex2, ex3, ex4, ex5, (show (h 0 24).toInt ≤ (g3 0 24).toInt by omega)⟩)
  · skip
    refine sf_ite (fun c55 => ?_) (fun c56 => ?_)
    · skip
      refine sf_oV (s_X7_next h I_h.1 (by omega)) (fun g57 pg57 => ?_)
      obtain ⟨I_g57, ex203, ex204, ex205, ex206, ex207, qg57⟩ := pg57
      try simp only at I_g57 ex203 ex204 ex205 ex206 ex207 qg57
      have yx208 := congrArg Int32.toInt ex203
      have yx209 := congrArg Int32.toInt ex204
      have yx210 := congrArg Int32.toInt ex205
      have yx211 := congrArg Int32.toInt ex206
      have yx212 := congrArg Int32.toInt ex207
      have pq_g57 : 0 ≤ (g57 0 20).toInt ∧ (g57 0 20).toInt ≤ 800 ∧ 0 ≤ (g57 0 21).toInt ∧ (g57 0 21).toInt ≤ 160 ∧ 0 ≤ (g57 0 24).toInt ∧ (g57 0 24).toInt ≤ (g57 0 22).toInt ∧ (g57 0 22).toInt ≤ (g57 0 21).toInt ∧ ((g57 0 23).toInt = 3 → (g57 0 24).toInt < (g57 0 22).toInt) := I_g57.2
      refine sf_ite (fun c58 => ?_) (fun c59 => ?_)
      · skip
        refine sf_oI (s_X7_either0 g57 I_g57 ) (fun r60 g61 pg61 => ?_)
        obtain ⟨I_g61, ex213, ex214, ex215, ex216, ex217, qg61⟩ := pg61
        try simp only at I_g61 ex213 ex214 ex215 ex216 ex217 qg61
        have yx218 := congrArg Int32.toInt ex213
        have yx219 := congrArg Int32.toInt ex214
        have yx220 := congrArg Int32.toInt ex215
        have yx221 := congrArg Int32.toInt ex216
        have yx222 := congrArg Int32.toInt ex217
        have pq_g61 : 0 ≤ (g61 0 20).toInt ∧ (g61 0 20).toInt ≤ 800 ∧ 0 ≤ (g61 0 21).toInt ∧ (g61 0 21).toInt ≤ 160 ∧ 0 ≤ (g61 0 24).toInt ∧ (g61 0 24).toInt ≤ (g61 0 22).toInt ∧ (g61 0 22).toInt ≤ (g61 0 21).toInt ∧ ((g61 0 23).toInt = 3 → (g61 0 24).toInt < (g61 0 22).toInt) := I_g61.2
        have tx223 : (59 : Int32).toInt = 59 := by decide
        refine sf_oP (s_X7_isSign g61 I_g61 (59 : Int32)) (fun r62 pr62 => ?_)
        refine sf_ite (fun c63 => ?_) (fun c64 => ?_)
        · skip
          refine sf_oV (s_X7_fail g61 I_g61 ) (fun g65 pg65 => ?_)
          obtain ⟨I_g65, ex224, ex225, ex226, ex227, ex228, ex229, ex230, ex231, qg65⟩ := pg65
          try simp only at I_g65 ex224 ex225 ex226 ex227 ex228 ex229 ex230 ex231 qg65
          have yx232 := congrArg Int32.toInt ex224
          have yx233 := congrArg Int32.toInt ex225
          have yx234 := congrArg Int32.toInt ex226
          have yx235 := congrArg Int32.toInt ex227
          have yx236 := congrArg Int32.toInt ex228
          have yx237 := congrArg Int32.toInt ex229
          have yx238 := congrArg Int32.toInt ex230
          have yx239 := congrArg Int32.toInt ex231
          have pq_g65 : 0 ≤ (g65 0 20).toInt ∧ (g65 0 20).toInt ≤ 800 ∧ 0 ≤ (g65 0 21).toInt ∧ (g65 0 21).toInt ≤ 160 ∧ 0 ≤ (g65 0 24).toInt ∧ (g65 0 24).toInt ≤ (g65 0 22).toInt ∧ (g65 0 22).toInt ≤ (g65 0 21).toInt ∧ ((g65 0 23).toInt = 3 → (g65 0 24).toInt < (g65 0 22).toInt) := I_g65.2
          refine sf_ite (fun c66 => ?_) (fun c67 => ?_)
          · skip
            refine sf_oV (s_X7_next g65 I_g65.1 (by omega)) (fun g68 pg68 => ?_)
            obtain ⟨I_g68, ex240, ex241, ex242, ex243, ex244, qg68⟩ := pg68
            try simp only at I_g68 ex240 ex241 ex242 ex243 ex244 qg68
            have yx245 := congrArg Int32.toInt ex240
            have yx246 := congrArg Int32.toInt ex241
            have yx247 := congrArg Int32.toInt ex242
            have yx248 := congrArg Int32.toInt ex243
            have yx249 := congrArg Int32.toInt ex244
            have pq_g68 : 0 ≤ (g68 0 20).toInt ∧ (g68 0 20).toInt ≤ 800 ∧ 0 ≤ (g68 0 21).toInt ∧ (g68 0 21).toInt ≤ 160 ∧ 0 ≤ (g68 0 24).toInt ∧ (g68 0 24).toInt ≤ (g68 0 22).toInt ∧ (g68 0 22).toInt ≤ (g68 0 21).toInt ∧ ((g68 0 23).toInt = 3 → (g68 0 24).toInt < (g68 0 22).toInt) := I_g68.2
            exact sf_some (⟨I_g68, (ex240.trans (ex224.trans (ex213.trans ex203))), (ex241.trans (ex225.trans (ex214.trans ex204))), (ex242.trans (ex226.trans (ex215.trans ex205))), (ex243.trans (ex227.trans (ex216.trans ex206))), (ex244.trans (ex228.trans (ex217.trans ex207))), (show (h 0 24).toInt ≤ (g68 0 24).toInt by omega)⟩)
          · skip
            exact sf_some (⟨I_g65, (ex224.trans (ex213.trans ex203)), (ex225.trans (ex214.trans ex204)), (ex226.trans (ex215.trans ex205)), (ex227.trans (ex216.trans ex206)), (ex228.trans (ex217.trans ex207)), (show (h 0 24).toInt ≤ (g65 0 24).toInt by omega)⟩)
        · skip
          refine sf_ite (fun c69 => ?_) (fun c70 => ?_)
          · skip
            refine sf_oV (s_X7_next g61 I_g61.1 (by omega)) (fun g71 pg71 => ?_)
            obtain ⟨I_g71, ex250, ex251, ex252, ex253, ex254, qg71⟩ := pg71
            try simp only at I_g71 ex250 ex251 ex252 ex253 ex254 qg71
            have yx255 := congrArg Int32.toInt ex250
            have yx256 := congrArg Int32.toInt ex251
            have yx257 := congrArg Int32.toInt ex252
            have yx258 := congrArg Int32.toInt ex253
            have yx259 := congrArg Int32.toInt ex254
            have pq_g71 : 0 ≤ (g71 0 20).toInt ∧ (g71 0 20).toInt ≤ 800 ∧ 0 ≤ (g71 0 21).toInt ∧ (g71 0 21).toInt ≤ 160 ∧ 0 ≤ (g71 0 24).toInt ∧ (g71 0 24).toInt ≤ (g71 0 22).toInt ∧ (g71 0 22).toInt ≤ (g71 0 21).toInt ∧ ((g71 0 23).toInt = 3 → (g71 0 24).toInt < (g71 0 22).toInt) := I_g71.2
            exact sf_some (⟨I_g71, (ex250.trans (ex213.trans ex203)), (ex251.trans (ex214.trans ex204)), (ex252.trans (ex215.trans ex205)), (ex253.trans (ex216.trans ex206)), (ex254.trans (ex217.trans ex207)), (show (h 0 24).toInt ≤ (g71 0 24).toInt by omega)⟩)
          · skip
            exact sf_some (⟨I_g61, (ex213.trans ex203), (ex214.trans ex204), (ex215.trans ex205), (ex216.trans ex206), (ex217.trans ex207), (show (h 0 24).toInt ≤ (g61 0 24).toInt by omega)⟩)
      · skip
        have tx260 : (59 : Int32).toInt = 59 := by decide
        refine sf_oP (s_X7_isSign g57 I_g57 (59 : Int32)) (fun r72 pr72 => ?_)
        refine sf_ite (fun c73 => ?_) (fun c74 => ?_)
        · skip
          refine sf_oV (s_X7_fail g57 I_g57 ) (fun g75 pg75 => ?_)
          obtain ⟨I_g75, ex261, ex262, ex263, ex264, ex265, ex266, ex267, ex268, qg75⟩ := pg75
          try simp only at I_g75 ex261 ex262 ex263 ex264 ex265 ex266 ex267 ex268 qg75
          have yx269 := congrArg Int32.toInt ex261
          have yx270 := congrArg Int32.toInt ex262
          have yx271 := congrArg Int32.toInt ex263
          have yx272 := congrArg Int32.toInt ex264
          have yx273 := congrArg Int32.toInt ex265
          have yx274 := congrArg Int32.toInt ex266
          have yx275 := congrArg Int32.toInt ex267
          have yx276 := congrArg Int32.toInt ex268
          have pq_g75 : 0 ≤ (g75 0 20).toInt ∧ (g75 0 20).toInt ≤ 800 ∧ 0 ≤ (g75 0 21).toInt ∧ (g75 0 21).toInt ≤ 160 ∧ 0 ≤ (g75 0 24).toInt ∧ (g75 0 24).toInt ≤ (g75 0 22).toInt ∧ (g75 0 22).toInt ≤ (g75 0 21).toInt ∧ ((g75 0 23).toInt = 3 → (g75 0 24).toInt < (g75 0 22).toInt) := I_g75.2
          refine sf_ite (fun c76 => ?_) (fun c77 => ?_)
          · skip
            refine sf_oV (s_X7_next g75 I_g75.1 (by omega)) (fun g78 pg78 => ?_)
            obtain ⟨I_g78, ex277, ex278, ex279, ex280, ex281, qg78⟩ := pg78
            try simp only at I_g78 ex277 ex278 ex279 ex280 ex281 qg78
            have yx282 := congrArg Int32.toInt ex277
            have yx283 := congrArg Int32.toInt ex278
            have yx284 := congrArg Int32.toInt ex279
            have yx285 := congrArg Int32.toInt ex280
            have yx286 := congrArg Int32.toInt ex281
            have pq_g78 : 0 ≤ (g78 0 20).toInt ∧ (g78 0 20).toInt ≤ 800 ∧ 0 ≤ (g78 0 21).toInt ∧ (g78 0 21).toInt ≤ 160 ∧ 0 ≤ (g78 0 24).toInt ∧ (g78 0 24).toInt ≤ (g78 0 22).toInt ∧ (g78 0 22).toInt ≤ (g78 0 21).toInt ∧ ((g78 0 23).toInt = 3 → (g78 0 24).toInt < (g78 0 22).toInt) := I_g78.2
            have tx287 : (0 : Int32).toInt = 0 := by decide
            exact sf_some (⟨I_g78, (ex277.trans (ex261.trans ex203)), (ex278.trans (ex262.trans ex204)), (ex279.trans (ex263.trans ex205)), (ex280.trans (ex264.trans ex206)), (ex281.trans (ex265.trans ex207)), (show (h 0 24).toInt ≤ (g78 0 24).toInt by omega)⟩)
          · skip
            have tx288 : (0 : Int32).toInt = 0 := by decide
            exact sf_some (⟨I_g75, (ex261.trans ex203), (ex262.trans ex204), (ex263.trans ex205), (ex264.trans ex206), (ex265.trans ex207), (show (h 0 24).toInt ≤ (g75 0 24).toInt by omega)⟩)
        · skip
          refine sf_ite (fun c79 => ?_) (fun c80 => ?_)
          · skip
            refine sf_oV (s_X7_next g57 I_g57.1 (by omega)) (fun g81 pg81 => ?_)
            obtain ⟨I_g81, ex289, ex290, ex291, ex292, ex293, qg81⟩ := pg81
            try simp only at I_g81 ex289 ex290 ex291 ex292 ex293 qg81
            have yx294 := congrArg Int32.toInt ex289
            have yx295 := congrArg Int32.toInt ex290
            have yx296 := congrArg Int32.toInt ex291
            have yx297 := congrArg Int32.toInt ex292
            have yx298 := congrArg Int32.toInt ex293
            have pq_g81 : 0 ≤ (g81 0 20).toInt ∧ (g81 0 20).toInt ≤ 800 ∧ 0 ≤ (g81 0 21).toInt ∧ (g81 0 21).toInt ≤ 160 ∧ 0 ≤ (g81 0 24).toInt ∧ (g81 0 24).toInt ≤ (g81 0 22).toInt ∧ (g81 0 22).toInt ≤ (g81 0 21).toInt ∧ ((g81 0 23).toInt = 3 → (g81 0 24).toInt < (g81 0 22).toInt) := I_g81.2
            have tx299 : (0 : Int32).toInt = 0 := by decide
            exact sf_some (⟨I_g81, (ex289.trans ex203), (ex290.trans ex204), (ex291.trans ex205), (ex292.trans ex206), (ex293.trans ex207), (show (h 0 24).toInt ≤ (g81 0 24).toInt by omega)⟩)
          · skip
            have tx300 : (0 : Int32).toInt = 0 := by decide
            exact sf_some (⟨I_g57, ex203, ex204, ex205, ex206, ex207, (show (h 0 24).toInt ≤ (g57 0 24).toInt by omega)⟩)
    · skip
      refine sf_ite (fun c82 => ?_) (fun c83 => ?_)
      · skip
        refine sf_oI (s_X7_either0 h I_h ) (fun r84 g85 pg85 => ?_)
        obtain ⟨I_g85, ex301, ex302, ex303, ex304, ex305, qg85⟩ := pg85
        try simp only at I_g85 ex301 ex302 ex303 ex304 ex305 qg85
        have yx306 := congrArg Int32.toInt ex301
        have yx307 := congrArg Int32.toInt ex302
        have yx308 := congrArg Int32.toInt ex303
        have yx309 := congrArg Int32.toInt ex304
        have yx310 := congrArg Int32.toInt ex305
        have pq_g85 : 0 ≤ (g85 0 20).toInt ∧ (g85 0 20).toInt ≤ 800 ∧ 0 ≤ (g85 0 21).toInt ∧ (g85 0 21).toInt ≤ 160 ∧ 0 ≤ (g85 0 24).toInt ∧ (g85 0 24).toInt ≤ (g85 0 22).toInt ∧ (g85 0 22).toInt ≤ (g85 0 21).toInt ∧ ((g85 0 23).toInt = 3 → (g85 0 24).toInt < (g85 0 22).toInt) := I_g85.2
        have tx311 : (59 : Int32).toInt = 59 := by decide
        refine sf_oP (s_X7_isSign g85 I_g85 (59 : Int32)) (fun r86 pr86 => ?_)
        refine sf_ite (fun c87 => ?_) (fun c88 => ?_)
        · skip
          refine sf_oV (s_X7_fail g85 I_g85 ) (fun g89 pg89 => ?_)
          obtain ⟨I_g89, ex312, ex313, ex314, ex315, ex316, ex317, ex318, ex319, qg89⟩ := pg89
          try simp only at I_g89 ex312 ex313 ex314 ex315 ex316 ex317 ex318 ex319 qg89
          have yx320 := congrArg Int32.toInt ex312
          have yx321 := congrArg Int32.toInt ex313
          have yx322 := congrArg Int32.toInt ex314
          have yx323 := congrArg Int32.toInt ex315
          have yx324 := congrArg Int32.toInt ex316
          have yx325 := congrArg Int32.toInt ex317
          have yx326 := congrArg Int32.toInt ex318
          have yx327 := congrArg Int32.toInt ex319
          have pq_g89 : 0 ≤ (g89 0 20).toInt ∧ (g89 0 20).toInt ≤ 800 ∧ 0 ≤ (g89 0 21).toInt ∧ (g89 0 21).toInt ≤ 160 ∧ 0 ≤ (g89 0 24).toInt ∧ (g89 0 24).toInt ≤ (g89 0 22).toInt ∧ (g89 0 22).toInt ≤ (g89 0 21).toInt ∧ ((g89 0 23).toInt = 3 → (g89 0 24).toInt < (g89 0 22).toInt) := I_g89.2
          refine sf_ite (fun c90 => ?_) (fun c91 => ?_)
          · skip
            refine sf_oV (s_X7_next g89 I_g89.1 (by omega)) (fun g92 pg92 => ?_)
            obtain ⟨I_g92, ex328, ex329, ex330, ex331, ex332, qg92⟩ := pg92
            try simp only at I_g92 ex328 ex329 ex330 ex331 ex332 qg92
            have yx333 := congrArg Int32.toInt ex328
            have yx334 := congrArg Int32.toInt ex329
            have yx335 := congrArg Int32.toInt ex330
            have yx336 := congrArg Int32.toInt ex331
            have yx337 := congrArg Int32.toInt ex332
            have pq_g92 : 0 ≤ (g92 0 20).toInt ∧ (g92 0 20).toInt ≤ 800 ∧ 0 ≤ (g92 0 21).toInt ∧ (g92 0 21).toInt ≤ 160 ∧ 0 ≤ (g92 0 24).toInt ∧ (g92 0 24).toInt ≤ (g92 0 22).toInt ∧ (g92 0 22).toInt ≤ (g92 0 21).toInt ∧ ((g92 0 23).toInt = 3 → (g92 0 24).toInt < (g92 0 22).toInt) := I_g92.2
            exact sf_some (⟨I_g92, (ex328.trans (ex312.trans ex301)), (ex329.trans (ex313.trans ex302)), (ex330.trans (ex314.trans ex303)), (ex331.trans (ex315.trans ex304)), (ex332.trans (ex316.trans ex305)), (show (h 0 24).toInt ≤ (g92 0 24).toInt by omega)⟩)
          · skip
            exact sf_some (⟨I_g89, (ex312.trans ex301), (ex313.trans ex302), (ex314.trans ex303), (ex315.trans ex304), (ex316.trans ex305), (show (h 0 24).toInt ≤ (g89 0 24).toInt by omega)⟩)
        · skip
          refine sf_ite (fun c93 => ?_) (fun c94 => ?_)
          · skip
            refine sf_oV (s_X7_next g85 I_g85.1 (by omega)) (fun g95 pg95 => ?_)
            obtain ⟨I_g95, ex338, ex339, ex340, ex341, ex342, qg95⟩ := pg95
            try simp only at I_g95 ex338 ex339 ex340 ex341 ex342 qg95
            have yx343 := congrArg Int32.toInt ex338
            have yx344 := congrArg Int32.toInt ex339
            have yx345 := congrArg Int32.toInt ex340
            have yx346 := congrArg Int32.toInt ex341
            have yx347 := congrArg Int32.toInt ex342
            have pq_g95 : 0 ≤ (g95 0 20).toInt ∧ (g95 0 20).toInt ≤ 800 ∧ 0 ≤ (g95 0 21).toInt ∧ (g95 0 21).toInt ≤ 160 ∧ 0 ≤ (g95 0 24).toInt ∧ (g95 0 24).toInt ≤ (g95 0 22).toInt ∧ (g95 0 22).toInt ≤ (g95 0 21).toInt ∧ ((g95 0 23).toInt = 3 → (g95 0 24).toInt < (g95 0 22).toInt) := I_g95.2
            exact sf_some (⟨I_g95, (ex338.trans ex301), (ex339.trans ex302), (ex340.trans ex303), (ex341.trans ex304), (ex342.trans ex305), (show (h 0 24).toInt ≤ (g95 0 24).toInt by omega)⟩)
          · skip
            exact sf_some (⟨I_g85, ex301, ex302, ex303, ex304, ex305, (show (h 0 24).toInt ≤ (g85 0 24).toInt by omega)⟩)
      · skip
        have tx348 : (59 : Int32).toInt = 59 := by decide
        refine sf_oP (s_X7_isSign h I_h (59 : Int32)) (fun r96 pr96 => ?_)
        refine sf_ite (fun c97 => ?_) (fun c98 => ?_)
        · skip
          refine sf_oV (s_X7_fail h I_h ) (fun g99 pg99 => ?_)
          obtain ⟨I_g99, ex349, ex350, ex351, ex352, ex353, ex354, ex355, ex356, qg99⟩ := pg99
          try simp only at I_g99 ex349 ex350 ex351 ex352 ex353 ex354 ex355 ex356 qg99
          have yx357 := congrArg Int32.toInt ex349
          have yx358 := congrArg Int32.toInt ex350
          have yx359 := congrArg Int32.toInt ex351
          have yx360 := congrArg Int32.toInt ex352
          have yx361 := congrArg Int32.toInt ex353
          have yx362 := congrArg Int32.toInt ex354
          have yx363 := congrArg Int32.toInt ex355
          have yx364 := congrArg Int32.toInt ex356
          have pq_g99 : 0 ≤ (g99 0 20).toInt ∧ (g99 0 20).toInt ≤ 800 ∧ 0 ≤ (g99 0 21).toInt ∧ (g99 0 21).toInt ≤ 160 ∧ 0 ≤ (g99 0 24).toInt ∧ (g99 0 24).toInt ≤ (g99 0 22).toInt ∧ (g99 0 22).toInt ≤ (g99 0 21).toInt ∧ ((g99 0 23).toInt = 3 → (g99 0 24).toInt < (g99 0 22).toInt) := I_g99.2
          refine sf_ite (fun c100 => ?_) (fun c101 => ?_)
          · skip
            refine sf_oV (s_X7_next g99 I_g99.1 (by omega)) (fun g102 pg102 => ?_)
            obtain ⟨I_g102, ex365, ex366, ex367, ex368, ex369, qg102⟩ := pg102
            try simp only at I_g102 ex365 ex366 ex367 ex368 ex369 qg102
            have yx370 := congrArg Int32.toInt ex365
            have yx371 := congrArg Int32.toInt ex366
            have yx372 := congrArg Int32.toInt ex367
            have yx373 := congrArg Int32.toInt ex368
            have yx374 := congrArg Int32.toInt ex369
            have pq_g102 : 0 ≤ (g102 0 20).toInt ∧ (g102 0 20).toInt ≤ 800 ∧ 0 ≤ (g102 0 21).toInt ∧ (g102 0 21).toInt ≤ 160 ∧ 0 ≤ (g102 0 24).toInt ∧ (g102 0 24).toInt ≤ (g102 0 22).toInt ∧ (g102 0 22).toInt ≤ (g102 0 21).toInt ∧ ((g102 0 23).toInt = 3 → (g102 0 24).toInt < (g102 0 22).toInt) := I_g102.2
            have tx375 : (0 : Int32).toInt = 0 := by decide
            exact sf_some (⟨I_g102, (ex365.trans ex349), (ex366.trans ex350), (ex367.trans ex351), (ex368.trans ex352), (ex369.trans ex353), (show (h 0 24).toInt ≤ (g102 0 24).toInt by omega)⟩)
          · skip
            have tx376 : (0 : Int32).toInt = 0 := by decide
            exact sf_some (⟨I_g99, ex349, ex350, ex351, ex352, ex353, (show (h 0 24).toInt ≤ (g99 0 24).toInt by omega)⟩)
        · skip
          refine sf_ite (fun c103 => ?_) (fun c104 => ?_)
          · skip
            refine sf_oV (s_X7_next h I_h.1 (by omega)) (fun g105 pg105 => ?_)
            obtain ⟨I_g105, ex377, ex378, ex379, ex380, ex381, qg105⟩ := pg105
            try simp only at I_g105 ex377 ex378 ex379 ex380 ex381 qg105
            have yx382 := congrArg Int32.toInt ex377
            have yx383 := congrArg Int32.toInt ex378
            have yx384 := congrArg Int32.toInt ex379
            have yx385 := congrArg Int32.toInt ex380
            have yx386 := congrArg Int32.toInt ex381
            have pq_g105 : 0 ≤ (g105 0 20).toInt ∧ (g105 0 20).toInt ≤ 800 ∧ 0 ≤ (g105 0 21).toInt ∧ (g105 0 21).toInt ≤ 160 ∧ 0 ≤ (g105 0 24).toInt ∧ (g105 0 24).toInt ≤ (g105 0 22).toInt ∧ (g105 0 22).toInt ≤ (g105 0 21).toInt ∧ ((g105 0 23).toInt = 3 → (g105 0 24).toInt < (g105 0 22).toInt) := I_g105.2
            have tx387 : (0 : Int32).toInt = 0 := by decide
            exact sf_some (⟨I_g105, ex377, ex378, ex379, ex380, ex381, (show (h 0 24).toInt ≤ (g105 0 24).toInt by omega)⟩)
          · skip
            have tx388 : (0 : Int32).toInt = 0 := by decide
            exact sf_some (⟨I_h, rfl, rfl, rfl, rfl, rfl, (show (h 0 24).toInt ≤ (h 0 24).toInt by omega)⟩)
theorem s_X7_read (h : dH) (I_h : InvM h) (v1 : Int32) (v2 : Int32) (q0 : 0 ≤ v1.toInt ∧ v1.toInt ≤ 5) : Sf (f_X7_read v1 v2 h) (fun o => InvM o.2 ∧ o.2 0 3 = h 0 3 ∧ o.2 0 4 = h 0 4 ∧ o.2 0 13 = h 0 13 ∧ True) := by
  unfold f_X7_read
  have u_v1 := Int32.toInt_lt v1
  have w_v1 := Int32.le_toInt v1
  have u_v2 := Int32.toInt_lt v2
  have w_v2 := Int32.le_toInt v2
  try have tx1 : (160 * v1).toInt = 160 * v1.toInt := i_mul (by decide) rfl (by omega) (by omega)
  refine sf_oH (fun g1 hg1 => ?_)
  have I_g1 : InvM g1 := by rw [hg1]; exact invM_free I_h rfl (by omega) (by omega)
  have ex2 : g1 0 3 = h 0 3 := by rw [hg1]; exact dU_ne (by omega)
  have yx3 := congrArg Int32.toInt ex2
  have ex4 : g1 0 4 = h 0 4 := by rw [hg1]; exact dU_ne (by omega)
  have yx5 := congrArg Int32.toInt ex4
  have ex6 : g1 0 13 = h 0 13 := by rw [hg1]; exact dU_ne (by omega)
  have yx7 := congrArg Int32.toInt ex6
  have ex8 : g1 0 21 = h 0 21 := by rw [hg1]; exact dU_ne (by omega)
  have yx9 := congrArg Int32.toInt ex8
  have ex10 : g1 0 22 = h 0 22 := by rw [hg1]; exact dU_ne (by omega)
  have yx11 := congrArg Int32.toInt ex10
  have ex12 : g1 0 23 = h 0 23 := by rw [hg1]; exact dU_ne (by omega)
  have yx13 := congrArg Int32.toInt ex12
  have ex14 : g1 0 24 = h 0 24 := by rw [hg1]; exact dU_ne (by omega)
  have yx15 := congrArg Int32.toInt ex14
  have yx16 : (g1 0 20).toInt = (160 * v1).toInt := by rw [hg1, dU_eq]
  refine sf_guard (by omega) (fun c2 => ?_)
  have bx17 := I_g1.1 2 (v1.toInt.toNat) (0) (160) rfl
  refine sf_oH (fun g3 hg3 => ?_)
  have I_g3 : InvM g3 := by rw [hg3]; exact invM_free I_g1 rfl (by omega) (by omega)
  have ex18 : g3 0 3 = g1 0 3 := by rw [hg3]; exact dU_ne (by omega)
  have yx19 := congrArg Int32.toInt ex18
  have ex20 : g3 0 4 = g1 0 4 := by rw [hg3]; exact dU_ne (by omega)
  have yx21 := congrArg Int32.toInt ex20
  have ex22 : g3 0 13 = g1 0 13 := by rw [hg3]; exact dU_ne (by omega)
  have yx23 := congrArg Int32.toInt ex22
  have ex24 : g3 0 20 = g1 0 20 := by rw [hg3]; exact dU_ne (by omega)
  have yx25 := congrArg Int32.toInt ex24
  have ex26 : g3 0 22 = g1 0 22 := by rw [hg3]; exact dU_ne (by omega)
  have yx27 := congrArg Int32.toInt ex26
  have ex28 : g3 0 23 = g1 0 23 := by rw [hg3]; exact dU_ne (by omega)
  have yx29 := congrArg Int32.toInt ex28
  have ex30 : g3 0 24 = g1 0 24 := by rw [hg3]; exact dU_ne (by omega)
  have yx31 := congrArg Int32.toInt ex30
  have yx32 : (g3 0 21).toInt = (g1 2 (v1.toInt.toNat)).toInt := by rw [hg3, dU_eq]
  refine sf_oH (fun g4 hg4 => ?_)
  have I_g4 : InvM g4 := by rw [hg4]; exact invM_free I_g3 rfl (by omega) (by omega)
  have ex33 : g4 0 3 = g3 0 3 := by rw [hg4]; exact dU_ne (by omega)
  have yx34 := congrArg Int32.toInt ex33
  have ex35 : g4 0 4 = g3 0 4 := by rw [hg4]; exact dU_ne (by omega)
  have yx36 := congrArg Int32.toInt ex35
  have ex37 : g4 0 13 = g3 0 13 := by rw [hg4]; exact dU_ne (by omega)
  have yx38 := congrArg Int32.toInt ex37
  have ex39 : g4 0 20 = g3 0 20 := by rw [hg4]; exact dU_ne (by omega)
  have yx40 := congrArg Int32.toInt ex39
  have ex41 : g4 0 21 = g3 0 21 := by rw [hg4]; exact dU_ne (by omega)
  have yx42 := congrArg Int32.toInt ex41
  have ex43 : g4 0 23 = g3 0 23 := by rw [hg4]; exact dU_ne (by omega)
  have yx44 := congrArg Int32.toInt ex43
  have ex45 : g4 0 24 = g3 0 24 := by rw [hg4]; exact dU_ne (by omega)
  have yx46 := congrArg Int32.toInt ex45
  have yx47 : (g4 0 22).toInt = 0 := by rw [hg4, dU_eq]; decide
  refine sf_oH (fun g5 hg5 => ?_)
  have I_g5 : InvM g5 := by rw [hg5]; exact invM_free I_g4 rfl (by omega) (by omega)
  have ex48 : g5 0 3 = g4 0 3 := by rw [hg5]; exact dU_ne (by omega)
  have yx49 := congrArg Int32.toInt ex48
  have ex50 : g5 0 4 = g4 0 4 := by rw [hg5]; exact dU_ne (by omega)
  have yx51 := congrArg Int32.toInt ex50
  have ex52 : g5 0 13 = g4 0 13 := by rw [hg5]; exact dU_ne (by omega)
  have yx53 := congrArg Int32.toInt ex52
  have ex54 : g5 0 20 = g4 0 20 := by rw [hg5]; exact dU_ne (by omega)
  have yx55 := congrArg Int32.toInt ex54
  have ex56 : g5 0 21 = g4 0 21 := by rw [hg5]; exact dU_ne (by omega)
  have yx57 := congrArg Int32.toInt ex56
  have ex58 : g5 0 22 = g4 0 22 := by rw [hg5]; exact dU_ne (by omega)
  have yx59 := congrArg Int32.toInt ex58
  have ex60 : g5 0 23 = g4 0 23 := by rw [hg5]; exact dU_ne (by omega)
  have yx61 := congrArg Int32.toInt ex60
  have ex62 : g5 0 24 = g4 0 24 := by rw [hg5]; exact dU_ne (by omega)
  have yx63 := congrArg Int32.toInt ex62
  have yx64 : (g5 0 26).toInt = 0 := by rw [hg5, dU_eq]; decide
  refine sf_oH (fun g6 hg6 => ?_)
  have I_g6 : InvM g6 := by rw [hg6]; exact invM_free I_g5 rfl (by omega) (by omega)
  have ex65 : g6 0 3 = g5 0 3 := by rw [hg6]; exact dU_ne (by omega)
  have yx66 := congrArg Int32.toInt ex65
  have ex67 : g6 0 4 = g5 0 4 := by rw [hg6]; exact dU_ne (by omega)
  have yx68 := congrArg Int32.toInt ex67
  have ex69 : g6 0 13 = g5 0 13 := by rw [hg6]; exact dU_ne (by omega)
  have yx70 := congrArg Int32.toInt ex69
  have ex71 : g6 0 20 = g5 0 20 := by rw [hg6]; exact dU_ne (by omega)
  have yx72 := congrArg Int32.toInt ex71
  have ex73 : g6 0 21 = g5 0 21 := by rw [hg6]; exact dU_ne (by omega)
  have yx74 := congrArg Int32.toInt ex73
  have ex75 : g6 0 22 = g5 0 22 := by rw [hg6]; exact dU_ne (by omega)
  have yx76 := congrArg Int32.toInt ex75
  have ex77 : g6 0 23 = g5 0 23 := by rw [hg6]; exact dU_ne (by omega)
  have yx78 := congrArg Int32.toInt ex77
  have ex79 : g6 0 24 = g5 0 24 := by rw [hg6]; exact dU_ne (by omega)
  have yx80 := congrArg Int32.toInt ex79
  have yx81 : (g6 0 27).toInt = 0 := by rw [hg6, dU_eq]; decide
  refine sf_oV (s_X7_next g6 I_g6 (by omega)) (fun g7 pg7 => ?_)
  obtain ⟨I_g7, ex82, ex83, ex84, ex85, ex86, qg7⟩ := pg7
  try simp only at I_g7 ex82 ex83 ex84 ex85 ex86 qg7
  have yx87 := congrArg Int32.toInt ex82
  have yx88 := congrArg Int32.toInt ex83
  have yx89 := congrArg Int32.toInt ex84
  have yx90 := congrArg Int32.toInt ex85
  have yx91 := congrArg Int32.toInt ex86
  have pq_g7 : 0 ≤ (g7 0 20).toInt ∧ (g7 0 20).toInt ≤ 800 ∧ 0 ≤ (g7 0 21).toInt ∧ (g7 0 21).toInt ≤ 160 ∧ 0 ≤ (g7 0 24).toInt ∧ (g7 0 24).toInt ≤ (g7 0 22).toInt ∧ (g7 0 22).toInt ≤ (g7 0 21).toInt ∧ ((g7 0 23).toInt = 3 → (g7 0 24).toInt < (g7 0 22).toInt) := I_g7.2
  have tx92 : (109 : Int32).toInt = 109 := by decide
  have tx93 : (101 : Int32).toInt = 101 := by decide
  have tx94 : (116 : Int32).toInt = 116 := by decide
  have tx95 : (115 : Int32).toInt = 115 := by decide
  have tx96 : (0 : Int32).toInt = 0 := by decide
  refine sf_oP (s_X7_isWord g7 I_g7 (109 : Int32) (101 : Int32) (101 : Int32) (116 : Int32) (115 : Int32) (0 : Int32) (0 : Int32) (0 : Int32)) (fun r8 pr8 => ?_)
  refine sf_oI (s_X7_part g7 I_g7 r8) (fun r9 g10 pg10 => ?_)
  obtain ⟨I_g10, ex97, ex98, ex99, ex100, ex101, qg10⟩ := pg10
  try simp only at I_g10 ex97 ex98 ex99 ex100 ex101 qg10
  have yx102 := congrArg Int32.toInt ex97
  have yx103 := congrArg Int32.toInt ex98
  have yx104 := congrArg Int32.toInt ex99
  have yx105 := congrArg Int32.toInt ex100
  have yx106 := congrArg Int32.toInt ex101
  have pq_g10 : 0 ≤ (g10 0 20).toInt ∧ (g10 0 20).toInt ≤ 800 ∧ 0 ≤ (g10 0 21).toInt ∧ (g10 0 21).toInt ≤ 160 ∧ 0 ≤ (g10 0 24).toInt ∧ (g10 0 24).toInt ≤ (g10 0 22).toInt ∧ (g10 0 22).toInt ≤ (g10 0 21).toInt ∧ ((g10 0 23).toInt = 3 → (g10 0 24).toInt < (g10 0 22).toInt) := I_g10.2
  refine sf_ite (fun c11 => ?_) (fun c12 => ?_)
  · skip
    have tx107 : (102 : Int32).toInt = 102 := by decide
    have tx108 : (97 : Int32).toInt = 97 := by decide
    have tx109 : (100 : Int32).toInt = 100 := by decide
    refine sf_oP (s_X7_isWord g10 I_g10 (102 : Int32) (97 : Int32) (100 : Int32) (101 : Int32) (115 : Int32) (0 : Int32) (0 : Int32) (0 : Int32)) (fun r13 pr13 => ?_)
    refine sf_oI (s_X7_part g10 I_g10 r13) (fun r14 g15 pg15 => ?_)
    obtain ⟨I_g15, ex110, ex111, ex112, ex113, ex114, qg15⟩ := pg15
    try simp only at I_g15 ex110 ex111 ex112 ex113 ex114 qg15
    have yx115 := congrArg Int32.toInt ex110
    have yx116 := congrArg Int32.toInt ex111
    have yx117 := congrArg Int32.toInt ex112
    have yx118 := congrArg Int32.toInt ex113
    have yx119 := congrArg Int32.toInt ex114
    have pq_g15 : 0 ≤ (g15 0 20).toInt ∧ (g15 0 20).toInt ≤ 800 ∧ 0 ≤ (g15 0 21).toInt ∧ (g15 0 21).toInt ≤ 160 ∧ 0 ≤ (g15 0 24).toInt ∧ (g15 0 24).toInt ≤ (g15 0 22).toInt ∧ (g15 0 22).toInt ≤ (g15 0 21).toInt ∧ ((g15 0 23).toInt = 3 → (g15 0 24).toInt < (g15 0 22).toInt) := I_g15.2
    refine sf_ite (fun c16 => ?_) (fun c17 => ?_)
    · skip
      have tx120 : (111 : Int32).toInt = 111 := by decide
      have tx121 : (117 : Int32).toInt = 117 := by decide
      have tx122 : (110 : Int32).toInt = 110 := by decide
      refine sf_oP (s_X7_isWord g15 I_g15 (115 : Int32) (111 : Int32) (117 : Int32) (110 : Int32) (100 : Int32) (115 : Int32) (0 : Int32) (0 : Int32)) (fun r18 pr18 => ?_)
      refine sf_oI (s_X7_part g15 I_g15 r18) (fun r19 g20 pg20 => ?_)
      obtain ⟨I_g20, ex123, ex124, ex125, ex126, ex127, qg20⟩ := pg20
      try simp only at I_g20 ex123 ex124 ex125 ex126 ex127 qg20
      have yx128 := congrArg Int32.toInt ex123
      have yx129 := congrArg Int32.toInt ex124
      have yx130 := congrArg Int32.toInt ex125
      have yx131 := congrArg Int32.toInt ex126
      have yx132 := congrArg Int32.toInt ex127
      have pq_g20 : 0 ≤ (g20 0 20).toInt ∧ (g20 0 20).toInt ≤ 800 ∧ 0 ≤ (g20 0 21).toInt ∧ (g20 0 21).toInt ≤ 160 ∧ 0 ≤ (g20 0 24).toInt ∧ (g20 0 24).toInt ≤ (g20 0 22).toInt ∧ (g20 0 22).toInt ≤ (g20 0 21).toInt ∧ ((g20 0 23).toInt = 3 → (g20 0 24).toInt < (g20 0 22).toInt) := I_g20.2
      refine sf_ite (fun c21 => ?_) (fun c22 => ?_)
      · skip
        refine sf_ite (fun c23 => ?_) (fun c24 => ?_)
        · skip
          refine sf_ite (fun c25 => ?_) (fun c26 => ?_)
          · skip
            exact sf_some (⟨I_g20.1, (ex123.trans (ex110.trans (ex97.trans (ex82.trans (ex65.trans (ex48.trans (ex33.trans (ex18.trans ex2)))))))), (ex124.trans (ex111.trans (ex98.trans (ex83.trans (ex67.trans (ex50.trans (ex35.trans (ex20.trans ex4)))))))), (ex125.trans (ex112.trans (ex99.trans (ex84.trans (ex69.trans (ex52.trans (ex37.trans (ex22.trans ex6)))))))), trivial⟩)
          · skip
            refine sf_ite (fun c27 => ?_) (fun c28 => ?_)
            · skip
              exact sf_some (⟨I_g20.1, (ex123.trans (ex110.trans (ex97.trans (ex82.trans (ex65.trans (ex48.trans (ex33.trans (ex18.trans ex2)))))))), (ex124.trans (ex111.trans (ex98.trans (ex83.trans (ex67.trans (ex50.trans (ex35.trans (ex20.trans ex4)))))))), (ex125.trans (ex112.trans (ex99.trans (ex84.trans (ex69.trans (ex52.trans (ex37.trans (ex22.trans ex6)))))))), trivial⟩)
            · skip
              exact sf_some (⟨I_g20.1, (ex123.trans (ex110.trans (ex97.trans (ex82.trans (ex65.trans (ex48.trans (ex33.trans (ex18.trans ex2)))))))), (ex124.trans (ex111.trans (ex98.trans (ex83.trans (ex67.trans (ex50.trans (ex35.trans (ex20.trans ex4)))))))), (ex125.trans (ex112.trans (ex99.trans (ex84.trans (ex69.trans (ex52.trans (ex37.trans (ex22.trans ex6)))))))), trivial⟩)
        · skip
          refine sf_oV (s_X7_fail g20 I_g20 ) (fun g29 pg29 => ?_)
          obtain ⟨I_g29, ex133, ex134, ex135, ex136, ex137, ex138, ex139, ex140, qg29⟩ := pg29
          try simp only at I_g29 ex133 ex134 ex135 ex136 ex137 ex138 ex139 ex140 qg29
          have yx141 := congrArg Int32.toInt ex133
          have yx142 := congrArg Int32.toInt ex134
          have yx143 := congrArg Int32.toInt ex135
          have yx144 := congrArg Int32.toInt ex136
          have yx145 := congrArg Int32.toInt ex137
          have yx146 := congrArg Int32.toInt ex138
          have yx147 := congrArg Int32.toInt ex139
          have yx148 := congrArg Int32.toInt ex140
          have pq_g29 : 0 ≤ (g29 0 20).toInt ∧ (g29 0 20).toInt ≤ 800 ∧ 0 ≤ (g29 0 21).toInt ∧ (g29 0 21).toInt ≤ 160 ∧ 0 ≤ (g29 0 24).toInt ∧ (g29 0 24).toInt ≤ (g29 0 22).toInt ∧ (g29 0 22).toInt ≤ (g29 0 21).toInt ∧ ((g29 0 23).toInt = 3 → (g29 0 24).toInt < (g29 0 22).toInt) := I_g29.2
          refine sf_ite (fun c30 => ?_) (fun c31 => ?_)
          · skip
            exact sf_some (⟨I_g29.1, (ex133.trans (ex123.trans (ex110.trans (ex97.trans (ex82.trans (ex65.trans (ex48.trans (ex33.trans (ex18.trans ex2))))))))), (ex134.trans (ex124.trans (ex111.trans (ex98.trans (ex83.trans (ex67.trans (ex50.trans (ex35.trans (ex20.trans ex4))))))))), (ex135.trans (ex125.trans (ex112.trans (ex99.trans (ex84.trans (ex69.trans (ex52.trans (ex37.trans (ex22.trans ex6))))))))), trivial⟩)
          · skip
            refine sf_ite (fun c32 => ?_) (fun c33 => ?_)
            · skip
              exact sf_some (⟨I_g29.1, (ex133.trans (ex123.trans (ex110.trans (ex97.trans (ex82.trans (ex65.trans (ex48.trans (ex33.trans (ex18.trans ex2))))))))), (ex134.trans (ex124.trans (ex111.trans (ex98.trans (ex83.trans (ex67.trans (ex50.trans (ex35.trans (ex20.trans ex4))))))))), (ex135.trans (ex125.trans (ex112.trans (ex99.trans (ex84.trans (ex69.trans (ex52.trans (ex37.trans (ex22.trans ex6))))))))), trivial⟩)
            · skip
              exact sf_some (⟨I_g29.1, (ex133.trans (ex123.trans (ex110.trans (ex97.trans (ex82.trans (ex65.trans (ex48.trans (ex33.trans (ex18.trans ex2))))))))), (ex134.trans (ex124.trans (ex111.trans (ex98.trans (ex83.trans (ex67.trans (ex50.trans (ex35.trans (ex20.trans ex4))))))))), (ex135.trans (ex125.trans (ex112.trans (ex99.trans (ex84.trans (ex69.trans (ex52.trans (ex37.trans (ex22.trans ex6))))))))), trivial⟩)
      · skip
        refine sf_ite (fun c34 => ?_) (fun c35 => ?_)
        · skip
          exact sf_some (⟨I_g20.1, (ex123.trans (ex110.trans (ex97.trans (ex82.trans (ex65.trans (ex48.trans (ex33.trans (ex18.trans ex2)))))))), (ex124.trans (ex111.trans (ex98.trans (ex83.trans (ex67.trans (ex50.trans (ex35.trans (ex20.trans ex4)))))))), (ex125.trans (ex112.trans (ex99.trans (ex84.trans (ex69.trans (ex52.trans (ex37.trans (ex22.trans ex6)))))))), trivial⟩)
        · skip
          refine sf_ite (fun c36 => ?_) (fun c37 => ?_)
          · skip
            exact sf_some (⟨I_g20.1, (ex123.trans (ex110.trans (ex97.trans (ex82.trans (ex65.trans (ex48.trans (ex33.trans (ex18.trans ex2)))))))), (ex124.trans (ex111.trans (ex98.trans (ex83.trans (ex67.trans (ex50.trans (ex35.trans (ex20.trans ex4)))))))), (ex125.trans (ex112.trans (ex99.trans (ex84.trans (ex69.trans (ex52.trans (ex37.trans (ex22.trans ex6)))))))), trivial⟩)
          · skip
            exact sf_some (⟨I_g20.1, (ex123.trans (ex110.trans (ex97.trans (ex82.trans (ex65.trans (ex48.trans (ex33.trans (ex18.trans ex2)))))))), (ex124.trans (ex111.trans (ex98.trans (ex83.trans (ex67.trans (ex50.trans (ex35.trans (ex20.trans ex4)))))))), (ex125.trans (ex112.trans (ex99.trans (ex84.trans (ex69.trans (ex52.trans (ex37.trans (ex22.trans ex6)))))))), trivial⟩)
    · skip
      refine sf_ite (fun c38 => ?_) (fun c39 => ?_)
      · skip
        refine sf_ite (fun c40 => ?_) (fun c41 => ?_)
        · skip
          refine sf_ite (fun c42 => ?_) (fun c43 => ?_)
          · skip
            exact sf_some (⟨I_g15.1, (ex110.trans (ex97.trans (ex82.trans (ex65.trans (ex48.trans (ex33.trans (ex18.trans ex2))))))), (ex111.trans (ex98.trans (ex83.trans (ex67.trans (ex50.trans (ex35.trans (ex20.trans ex4))))))), (ex112.trans (ex99.trans (ex84.trans (ex69.trans (ex52.trans (ex37.trans (ex22.trans ex6))))))), trivial⟩)
          · skip
            refine sf_ite (fun c44 => ?_) (fun c45 => ?_)
            · skip
              exact sf_some (⟨I_g15.1, (ex110.trans (ex97.trans (ex82.trans (ex65.trans (ex48.trans (ex33.trans (ex18.trans ex2))))))), (ex111.trans (ex98.trans (ex83.trans (ex67.trans (ex50.trans (ex35.trans (ex20.trans ex4))))))), (ex112.trans (ex99.trans (ex84.trans (ex69.trans (ex52.trans (ex37.trans (ex22.trans ex6))))))), trivial⟩)
            · skip
              exact sf_some (⟨I_g15.1, (ex110.trans (ex97.trans (ex82.trans (ex65.trans (ex48.trans (ex33.trans (ex18.trans ex2))))))), (ex111.trans (ex98.trans (ex83.trans (ex67.trans (ex50.trans (ex35.trans (ex20.trans ex4))))))), (ex112.trans (ex99.trans (ex84.trans (ex69.trans (ex52.trans (ex37.trans (ex22.trans ex6))))))), trivial⟩)
        · skip
          refine sf_oV (s_X7_fail g15 I_g15 ) (fun g46 pg46 => ?_)
          obtain ⟨I_g46, ex149, ex150, ex151, ex152, ex153, ex154, ex155, ex156, qg46⟩ := pg46
          try simp only at I_g46 ex149 ex150 ex151 ex152 ex153 ex154 ex155 ex156 qg46
          have yx157 := congrArg Int32.toInt ex149
          have yx158 := congrArg Int32.toInt ex150
          have yx159 := congrArg Int32.toInt ex151
          have yx160 := congrArg Int32.toInt ex152
          have yx161 := congrArg Int32.toInt ex153
          have yx162 := congrArg Int32.toInt ex154
          have yx163 := congrArg Int32.toInt ex155
          have yx164 := congrArg Int32.toInt ex156
          have pq_g46 : 0 ≤ (g46 0 20).toInt ∧ (g46 0 20).toInt ≤ 800 ∧ 0 ≤ (g46 0 21).toInt ∧ (g46 0 21).toInt ≤ 160 ∧ 0 ≤ (g46 0 24).toInt ∧ (g46 0 24).toInt ≤ (g46 0 22).toInt ∧ (g46 0 22).toInt ≤ (g46 0 21).toInt ∧ ((g46 0 23).toInt = 3 → (g46 0 24).toInt < (g46 0 22).toInt) := I_g46.2
          refine sf_ite (fun c47 => ?_) (fun c48 => ?_)
          · skip
            exact sf_some (⟨I_g46.1, (ex149.trans (ex110.trans (ex97.trans (ex82.trans (ex65.trans (ex48.trans (ex33.trans (ex18.trans ex2)))))))), (ex150.trans (ex111.trans (ex98.trans (ex83.trans (ex67.trans (ex50.trans (ex35.trans (ex20.trans ex4)))))))), (ex151.trans (ex112.trans (ex99.trans (ex84.trans (ex69.trans (ex52.trans (ex37.trans (ex22.trans ex6)))))))), trivial⟩)
          · skip
            refine sf_ite (fun c49 => ?_) (fun c50 => ?_)
            · skip
              exact sf_some (⟨I_g46.1, (ex149.trans (ex110.trans (ex97.trans (ex82.trans (ex65.trans (ex48.trans (ex33.trans (ex18.trans ex2)))))))), (ex150.trans (ex111.trans (ex98.trans (ex83.trans (ex67.trans (ex50.trans (ex35.trans (ex20.trans ex4)))))))), (ex151.trans (ex112.trans (ex99.trans (ex84.trans (ex69.trans (ex52.trans (ex37.trans (ex22.trans ex6)))))))), trivial⟩)
            · skip
              exact sf_some (⟨I_g46.1, (ex149.trans (ex110.trans (ex97.trans (ex82.trans (ex65.trans (ex48.trans (ex33.trans (ex18.trans ex2)))))))), (ex150.trans (ex111.trans (ex98.trans (ex83.trans (ex67.trans (ex50.trans (ex35.trans (ex20.trans ex4)))))))), (ex151.trans (ex112.trans (ex99.trans (ex84.trans (ex69.trans (ex52.trans (ex37.trans (ex22.trans ex6)))))))), trivial⟩)
      · skip
        refine sf_ite (fun c51 => ?_) (fun c52 => ?_)
        · skip
          exact sf_some (⟨I_g15.1, (ex110.trans (ex97.trans (ex82.trans (ex65.trans (ex48.trans (ex33.trans (ex18.trans ex2))))))), (ex111.trans (ex98.trans (ex83.trans (ex67.trans (ex50.trans (ex35.trans (ex20.trans ex4))))))), (ex112.trans (ex99.trans (ex84.trans (ex69.trans (ex52.trans (ex37.trans (ex22.trans ex6))))))), trivial⟩)
        · skip
          refine sf_ite (fun c53 => ?_) (fun c54 => ?_)
          · skip
            exact sf_some (⟨I_g15.1, (ex110.trans (ex97.trans (ex82.trans (ex65.trans (ex48.trans (ex33.trans (ex18.trans ex2))))))), (ex111.trans (ex98.trans (ex83.trans (ex67.trans (ex50.trans (ex35.trans (ex20.trans ex4))))))), (ex112.trans (ex99.trans (ex84.trans (ex69.trans (ex52.trans (ex37.trans (ex22.trans ex6))))))), trivial⟩)
          · skip
            exact sf_some (⟨I_g15.1, (ex110.trans (ex97.trans (ex82.trans (ex65.trans (ex48.trans (ex33.trans (ex18.trans ex2))))))), (ex111.trans (ex98.trans (ex83.trans (ex67.trans (ex50.trans (ex35.trans (ex20.trans ex4))))))), (ex112.trans (ex99.trans (ex84.trans (ex69.trans (ex52.trans (ex37.trans (ex22.trans ex6))))))), trivial⟩)
  · skip
    refine sf_ite (fun c55 => ?_) (fun c56 => ?_)
    · skip
      have tx165 : (111 : Int32).toInt = 111 := by decide
      have tx166 : (117 : Int32).toInt = 117 := by decide
      have tx167 : (110 : Int32).toInt = 110 := by decide
      have tx168 : (100 : Int32).toInt = 100 := by decide
      refine sf_oP (s_X7_isWord g10 I_g10 (115 : Int32) (111 : Int32) (117 : Int32) (110 : Int32) (100 : Int32) (115 : Int32) (0 : Int32) (0 : Int32)) (fun r57 pr57 => ?_)
      refine sf_oI (s_X7_part g10 I_g10 r57) (fun r58 g59 pg59 => ?_)
      obtain ⟨I_g59, ex169, ex170, ex171, ex172, ex173, qg59⟩ := pg59
      try simp only at I_g59 ex169 ex170 ex171 ex172 ex173 qg59
      have yx174 := congrArg Int32.toInt ex169
      have yx175 := congrArg Int32.toInt ex170
      have yx176 := congrArg Int32.toInt ex171
      have yx177 := congrArg Int32.toInt ex172
      have yx178 := congrArg Int32.toInt ex173
      have pq_g59 : 0 ≤ (g59 0 20).toInt ∧ (g59 0 20).toInt ≤ 800 ∧ 0 ≤ (g59 0 21).toInt ∧ (g59 0 21).toInt ≤ 160 ∧ 0 ≤ (g59 0 24).toInt ∧ (g59 0 24).toInt ≤ (g59 0 22).toInt ∧ (g59 0 22).toInt ≤ (g59 0 21).toInt ∧ ((g59 0 23).toInt = 3 → (g59 0 24).toInt < (g59 0 22).toInt) := I_g59.2
      refine sf_ite (fun c60 => ?_) (fun c61 => ?_)
      · skip
        refine sf_ite (fun c62 => ?_) (fun c63 => ?_)
        · skip
          refine sf_ite (fun c64 => ?_) (fun c65 => ?_)
          · skip
            exact sf_some (⟨I_g59.1, (ex169.trans (ex97.trans (ex82.trans (ex65.trans (ex48.trans (ex33.trans (ex18.trans ex2))))))), (ex170.trans (ex98.trans (ex83.trans (ex67.trans (ex50.trans (ex35.trans (ex20.trans ex4))))))), (ex171.trans (ex99.trans (ex84.trans (ex69.trans (ex52.trans (ex37.trans (ex22.trans ex6))))))), trivial⟩)
          · skip
            refine sf_ite (fun c66 => ?_) (fun c67 => ?_)
            · skip
              exact sf_some (⟨I_g59.1, (ex169.trans (ex97.trans (ex82.trans (ex65.trans (ex48.trans (ex33.trans (ex18.trans ex2))))))), (ex170.trans (ex98.trans (ex83.trans (ex67.trans (ex50.trans (ex35.trans (ex20.trans ex4))))))), (ex171.trans (ex99.trans (ex84.trans (ex69.trans (ex52.trans (ex37.trans (ex22.trans ex6))))))), trivial⟩)
            · skip
              exact sf_some (⟨I_g59.1, (ex169.trans (ex97.trans (ex82.trans (ex65.trans (ex48.trans (ex33.trans (ex18.trans ex2))))))), (ex170.trans (ex98.trans (ex83.trans (ex67.trans (ex50.trans (ex35.trans (ex20.trans ex4))))))), (ex171.trans (ex99.trans (ex84.trans (ex69.trans (ex52.trans (ex37.trans (ex22.trans ex6))))))), trivial⟩)
        · skip
          refine sf_oV (s_X7_fail g59 I_g59 ) (fun g68 pg68 => ?_)
          obtain ⟨I_g68, ex179, ex180, ex181, ex182, ex183, ex184, ex185, ex186, qg68⟩ := pg68
          try simp only at I_g68 ex179 ex180 ex181 ex182 ex183 ex184 ex185 ex186 qg68
          have yx187 := congrArg Int32.toInt ex179
          have yx188 := congrArg Int32.toInt ex180
          have yx189 := congrArg Int32.toInt ex181
          have yx190 := congrArg Int32.toInt ex182
          have yx191 := congrArg Int32.toInt ex183
          have yx192 := congrArg Int32.toInt ex184
          have yx193 := congrArg Int32.toInt ex185
          have yx194 := congrArg Int32.toInt ex186
          have pq_g68 : 0 ≤ (g68 0 20).toInt ∧ (g68 0 20).toInt ≤ 800 ∧ 0 ≤ (g68 0 21).toInt ∧ (g68 0 21).toInt ≤ 160 ∧ 0 ≤ (g68 0 24).toInt ∧ (g68 0 24).toInt ≤ (g68 0 22).toInt ∧ (g68 0 22).toInt ≤ (g68 0 21).toInt ∧ ((g68 0 23).toInt = 3 → (g68 0 24).toInt < (g68 0 22).toInt) := I_g68.2
          refine sf_ite (fun c69 => ?_) (fun c70 => ?_)
          · skip
            exact sf_some (⟨I_g68.1, (ex179.trans (ex169.trans (ex97.trans (ex82.trans (ex65.trans (ex48.trans (ex33.trans (ex18.trans ex2)))))))), (ex180.trans (ex170.trans (ex98.trans (ex83.trans (ex67.trans (ex50.trans (ex35.trans (ex20.trans ex4)))))))), (ex181.trans (ex171.trans (ex99.trans (ex84.trans (ex69.trans (ex52.trans (ex37.trans (ex22.trans ex6)))))))), trivial⟩)
          · skip
            refine sf_ite (fun c71 => ?_) (fun c72 => ?_)
            · skip
              exact sf_some (⟨I_g68.1, (ex179.trans (ex169.trans (ex97.trans (ex82.trans (ex65.trans (ex48.trans (ex33.trans (ex18.trans ex2)))))))), (ex180.trans (ex170.trans (ex98.trans (ex83.trans (ex67.trans (ex50.trans (ex35.trans (ex20.trans ex4)))))))), (ex181.trans (ex171.trans (ex99.trans (ex84.trans (ex69.trans (ex52.trans (ex37.trans (ex22.trans ex6)))))))), trivial⟩)
            · skip
              exact sf_some (⟨I_g68.1, (ex179.trans (ex169.trans (ex97.trans (ex82.trans (ex65.trans (ex48.trans (ex33.trans (ex18.trans ex2)))))))), (ex180.trans (ex170.trans (ex98.trans (ex83.trans (ex67.trans (ex50.trans (ex35.trans (ex20.trans ex4)))))))), (ex181.trans (ex171.trans (ex99.trans (ex84.trans (ex69.trans (ex52.trans (ex37.trans (ex22.trans ex6)))))))), trivial⟩)
      · skip
        refine sf_ite (fun c73 => ?_) (fun c74 => ?_)
        · skip
          exact sf_some (⟨I_g59.1, (ex169.trans (ex97.trans (ex82.trans (ex65.trans (ex48.trans (ex33.trans (ex18.trans ex2))))))), (ex170.trans (ex98.trans (ex83.trans (ex67.trans (ex50.trans (ex35.trans (ex20.trans ex4))))))), (ex171.trans (ex99.trans (ex84.trans (ex69.trans (ex52.trans (ex37.trans (ex22.trans ex6))))))), trivial⟩)
        · skip
          refine sf_ite (fun c75 => ?_) (fun c76 => ?_)
          · skip
            exact sf_some (⟨I_g59.1, (ex169.trans (ex97.trans (ex82.trans (ex65.trans (ex48.trans (ex33.trans (ex18.trans ex2))))))), (ex170.trans (ex98.trans (ex83.trans (ex67.trans (ex50.trans (ex35.trans (ex20.trans ex4))))))), (ex171.trans (ex99.trans (ex84.trans (ex69.trans (ex52.trans (ex37.trans (ex22.trans ex6))))))), trivial⟩)
          · skip
            exact sf_some (⟨I_g59.1, (ex169.trans (ex97.trans (ex82.trans (ex65.trans (ex48.trans (ex33.trans (ex18.trans ex2))))))), (ex170.trans (ex98.trans (ex83.trans (ex67.trans (ex50.trans (ex35.trans (ex20.trans ex4))))))), (ex171.trans (ex99.trans (ex84.trans (ex69.trans (ex52.trans (ex37.trans (ex22.trans ex6))))))), trivial⟩)
    · skip
      refine sf_ite (fun c77 => ?_) (fun c78 => ?_)
      · skip
        refine sf_ite (fun c79 => ?_) (fun c80 => ?_)
        · skip
          refine sf_ite (fun c81 => ?_) (fun c82 => ?_)
          · skip
            exact sf_some (⟨I_g10.1, (ex97.trans (ex82.trans (ex65.trans (ex48.trans (ex33.trans (ex18.trans ex2)))))), (ex98.trans (ex83.trans (ex67.trans (ex50.trans (ex35.trans (ex20.trans ex4)))))), (ex99.trans (ex84.trans (ex69.trans (ex52.trans (ex37.trans (ex22.trans ex6)))))), trivial⟩)
          · skip
            refine sf_ite (fun c83 => ?_) (fun c84 => ?_)
            · skip
              exact sf_some (⟨I_g10.1, (ex97.trans (ex82.trans (ex65.trans (ex48.trans (ex33.trans (ex18.trans ex2)))))), (ex98.trans (ex83.trans (ex67.trans (ex50.trans (ex35.trans (ex20.trans ex4)))))), (ex99.trans (ex84.trans (ex69.trans (ex52.trans (ex37.trans (ex22.trans ex6)))))), trivial⟩)
            · skip
              exact sf_some (⟨I_g10.1, (ex97.trans (ex82.trans (ex65.trans (ex48.trans (ex33.trans (ex18.trans ex2)))))), (ex98.trans (ex83.trans (ex67.trans (ex50.trans (ex35.trans (ex20.trans ex4)))))), (ex99.trans (ex84.trans (ex69.trans (ex52.trans (ex37.trans (ex22.trans ex6)))))), trivial⟩)
        · skip
          refine sf_oV (s_X7_fail g10 I_g10 ) (fun g85 pg85 => ?_)
          obtain ⟨I_g85, ex195, ex196, ex197, ex198, ex199, ex200, ex201, ex202, qg85⟩ := pg85
          try simp only at I_g85 ex195 ex196 ex197 ex198 ex199 ex200 ex201 ex202 qg85
          have yx203 := congrArg Int32.toInt ex195
          have yx204 := congrArg Int32.toInt ex196
          have yx205 := congrArg Int32.toInt ex197
          have yx206 := congrArg Int32.toInt ex198
          have yx207 := congrArg Int32.toInt ex199
          have yx208 := congrArg Int32.toInt ex200
          have yx209 := congrArg Int32.toInt ex201
          have yx210 := congrArg Int32.toInt ex202
          have pq_g85 : 0 ≤ (g85 0 20).toInt ∧ (g85 0 20).toInt ≤ 800 ∧ 0 ≤ (g85 0 21).toInt ∧ (g85 0 21).toInt ≤ 160 ∧ 0 ≤ (g85 0 24).toInt ∧ (g85 0 24).toInt ≤ (g85 0 22).toInt ∧ (g85 0 22).toInt ≤ (g85 0 21).toInt ∧ ((g85 0 23).toInt = 3 → (g85 0 24).toInt < (g85 0 22).toInt) := I_g85.2
          refine sf_ite (fun c86 => ?_) (fun c87 => ?_)
          · skip
            exact sf_some (⟨I_g85.1, (ex195.trans (ex97.trans (ex82.trans (ex65.trans (ex48.trans (ex33.trans (ex18.trans ex2))))))), (ex196.trans (ex98.trans (ex83.trans (ex67.trans (ex50.trans (ex35.trans (ex20.trans ex4))))))), (ex197.trans (ex99.trans (ex84.trans (ex69.trans (ex52.trans (ex37.trans (ex22.trans ex6))))))), trivial⟩)
          · skip
            refine sf_ite (fun c88 => ?_) (fun c89 => ?_)
            · skip
              exact sf_some (⟨I_g85.1, (ex195.trans (ex97.trans (ex82.trans (ex65.trans (ex48.trans (ex33.trans (ex18.trans ex2))))))), (ex196.trans (ex98.trans (ex83.trans (ex67.trans (ex50.trans (ex35.trans (ex20.trans ex4))))))), (ex197.trans (ex99.trans (ex84.trans (ex69.trans (ex52.trans (ex37.trans (ex22.trans ex6))))))), trivial⟩)
            · skip
              exact sf_some (⟨I_g85.1, (ex195.trans (ex97.trans (ex82.trans (ex65.trans (ex48.trans (ex33.trans (ex18.trans ex2))))))), (ex196.trans (ex98.trans (ex83.trans (ex67.trans (ex50.trans (ex35.trans (ex20.trans ex4))))))), (ex197.trans (ex99.trans (ex84.trans (ex69.trans (ex52.trans (ex37.trans (ex22.trans ex6))))))), trivial⟩)
      · skip
        refine sf_ite (fun c90 => ?_) (fun c91 => ?_)
        · skip
          exact sf_some (⟨I_g10.1, (ex97.trans (ex82.trans (ex65.trans (ex48.trans (ex33.trans (ex18.trans ex2)))))), (ex98.trans (ex83.trans (ex67.trans (ex50.trans (ex35.trans (ex20.trans ex4)))))), (ex99.trans (ex84.trans (ex69.trans (ex52.trans (ex37.trans (ex22.trans ex6)))))), trivial⟩)
        · skip
          refine sf_ite (fun c92 => ?_) (fun c93 => ?_)
          · skip
            exact sf_some (⟨I_g10.1, (ex97.trans (ex82.trans (ex65.trans (ex48.trans (ex33.trans (ex18.trans ex2)))))), (ex98.trans (ex83.trans (ex67.trans (ex50.trans (ex35.trans (ex20.trans ex4)))))), (ex99.trans (ex84.trans (ex69.trans (ex52.trans (ex37.trans (ex22.trans ex6)))))), trivial⟩)
          · skip
            exact sf_some (⟨I_g10.1, (ex97.trans (ex82.trans (ex65.trans (ex48.trans (ex33.trans (ex18.trans ex2)))))), (ex98.trans (ex83.trans (ex67.trans (ex50.trans (ex35.trans (ex20.trans ex4)))))), (ex99.trans (ex84.trans (ex69.trans (ex52.trans (ex37.trans (ex22.trans ex6)))))), trivial⟩)
end
