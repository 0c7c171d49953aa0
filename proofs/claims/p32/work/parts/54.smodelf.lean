/-! that they answer: X7_says, X7_soundsOf, X7_told, X7_set, X7_binds, X7_house, X7_areTwo, X7_bind, X7_feed, X7_text, X7_force, X7_meetsOf, X7_fadesOf, X7_asks, X7_feasts, X7_fades, X7_friends, X7_feast, X7_year (by program) -/
noncomputable section
theorem s_X7_says (h : dH) (I_h : InvM h) (v1 : Int32) (v2 : Int32) (v3 : Int32) (q0 : 0 ≤ v2.toInt ∧ v2.toInt ≤ 7) (q1 : -1 ≤ v3.toInt ∧ v3.toInt ≤ 7) : Sf (f_X7_says v1 v2 v3 h) (fun o => InvM o.2 ∧ o.2 0 3 = h 0 3 ∧ o.2 0 4 = h 0 4 ∧ o.2 0 13 = h 0 13 ∧ True) := by
  unfold f_X7_says
  have u_v1 := Int32.toInt_lt v1
  have w_v1 := Int32.le_toInt v1
  have u_v2 := Int32.toInt_lt v2
  have w_v2 := Int32.le_toInt v2
  have u_v3 := Int32.toInt_lt v3
  have w_v3 := Int32.le_toInt v3
  refine sf_ite (fun c1 => ?_) (fun c2 => ?_)
  · skip
    refine sf_oH (fun g3 hg3 => ?_)
    have I_g3 : InvM g3 := by rw [hg3]; exact invM_free I_h rfl (by omega) (by omega)
    have ex1 : g3 0 3 = h 0 3 := by rw [hg3]; exact dU_ne (by omega)
    have yx2 := congrArg Int32.toInt ex1
    have ex3 : g3 0 4 = h 0 4 := by rw [hg3]; exact dU_ne (by omega)
    have yx4 := congrArg Int32.toInt ex3
    have ex5 : g3 0 13 = h 0 13 := by rw [hg3]; exact dU_ne (by omega)
    have yx6 := congrArg Int32.toInt ex5
    have yx7 : (g3 0 14).toInt = 0 := by rw [hg3, dU_eq]; decide
    refine sf_guard (by omega) (fun c4 => ?_)
    refine sf_oH (fun g5 hg5 => ?_)
    have I_g5 : InvM g5 := by rw [hg5]; exact invM_free I_g3 rfl (by omega) (by omega)
    have ex8 : g5 0 3 = g3 0 3 := by rw [hg5]; exact dU_ne (by omega)
    have yx9 := congrArg Int32.toInt ex8
    have ex10 : g5 0 4 = g3 0 4 := by rw [hg5]; exact dU_ne (by omega)
    have yx11 := congrArg Int32.toInt ex10
    have ex12 : g5 0 13 = g3 0 13 := by rw [hg5]; exact dU_ne (by omega)
    have yx13 := congrArg Int32.toInt ex12
    have yx14 : (g5 0 15).toInt = (g3 5 (v2.toInt.toNat)).toInt := by rw [hg5, dU_eq]
    refine sf_ite (fun c6 => ?_) (fun c7 => ?_)
    · skip
      refine sf_oH (fun g8 hg8 => ?_)
      have I_g8 : InvM g8 := by rw [hg8]; exact invM_free I_g5 rfl (by omega) (by omega)
      have ex15 : g8 0 3 = g5 0 3 := by rw [hg8]; exact dU_ne (by omega)
      have yx16 := congrArg Int32.toInt ex15
      have ex17 : g8 0 4 = g5 0 4 := by rw [hg8]; exact dU_ne (by omega)
      have yx18 := congrArg Int32.toInt ex17
      have ex19 : g8 0 13 = g5 0 13 := by rw [hg8]; exact dU_ne (by omega)
      have yx20 := congrArg Int32.toInt ex19
      have yx21 : (g8 0 16).toInt = 0 := by rw [hg8, dU_eq]; decide
      refine sf_oP (s_X7_seatsOf g8 I_g8 v2 (by omega)) (fun r9 pr9 => ?_)
      refine sf_oH (fun g10 hg10 => ?_)
      have I_g10 : InvM g10 := by rw [hg10]; exact invM_free I_g8 rfl (by omega) (by omega)
      have ex22 : g10 0 3 = g8 0 3 := by rw [hg10]; exact dU_ne (by omega)
      have yx23 := congrArg Int32.toInt ex22
      have ex24 : g10 0 4 = g8 0 4 := by rw [hg10]; exact dU_ne (by omega)
      have yx25 := congrArg Int32.toInt ex24
      have ex26 : g10 0 13 = g8 0 13 := by rw [hg10]; exact dU_ne (by omega)
      have yx27 := congrArg Int32.toInt ex26
      have yx28 : (g10 0 17).toInt = r9.toInt := by rw [hg10, dU_eq]
      refine sf_oH (fun g11 hg11 => ?_)
      have I_g11 : InvM g11 := by rw [hg11]; exact invM_free I_g10 rfl (by omega) (by omega)
      have ex29 : g11 0 3 = g10 0 3 := by rw [hg11]; exact dU_ne (by omega)
      have yx30 := congrArg Int32.toInt ex29
      have ex31 : g11 0 4 = g10 0 4 := by rw [hg11]; exact dU_ne (by omega)
      have yx32 := congrArg Int32.toInt ex31
      have ex33 : g11 0 13 = g10 0 13 := by rw [hg11]; exact dU_ne (by omega)
      have yx34 := congrArg Int32.toInt ex33
      have yx35 : (g11 0 18).toInt = (g10 0 7).toInt := by rw [hg11, dU_eq]
      refine sf_ite (fun c12 => ?_) (fun c13 => ?_)
      · skip
        refine sf_oH (fun g14 hg14 => ?_)
        have I_g14 : InvM g14 := by rw [hg14]; exact invM_free I_g11 rfl (by omega) (by omega)
        have ex36 : g14 0 3 = g11 0 3 := by rw [hg14]; exact dU_ne (by omega)
        have yx37 := congrArg Int32.toInt ex36
        have ex38 : g14 0 4 = g11 0 4 := by rw [hg14]; exact dU_ne (by omega)
        have yx39 := congrArg Int32.toInt ex38
        have ex40 : g14 0 13 = g11 0 13 := by rw [hg14]; exact dU_ne (by omega)
        have yx41 := congrArg Int32.toInt ex40
        have yx42 : (g14 0 19).toInt = 0 := by rw [hg14, dU_eq]; decide
        have bx43 := I_g14.1 0 4 (0) (5) rfl
        refine sf_oI (s_X7_read g14 I_g14 (g14 0 4) v1 (by omega)) (fun r15 g16 pg16 => ?_)
        obtain ⟨I_g16, ex44, ex45, ex46, qg16⟩ := pg16
        try simp only at I_g16 ex44 ex45 ex46 qg16
        have yx47 := congrArg Int32.toInt ex44
        have yx48 := congrArg Int32.toInt ex45
        have yx49 := congrArg Int32.toInt ex46
        have tx50 : (0 : Int32).toInt = 0 := by decide
        have tx51 : (60 : Int32).toInt = 60 := by decide
        refine sf_oP (s_X7_within g16 I_g16 r15 (0 : Int32) (60 : Int32)) (fun r17 pr17 => ?_)
        exact sf_some (⟨I_g16, (ex44.trans (ex36.trans (ex29.trans (ex22.trans (ex15.trans (ex8.trans ex1)))))), (ex45.trans (ex38.trans (ex31.trans (ex24.trans (ex17.trans (ex10.trans ex3)))))), (ex46.trans (ex40.trans (ex33.trans (ex26.trans (ex19.trans (ex12.trans ex5)))))), trivial⟩)
      · skip
        refine sf_oP (s_X7_apart g11 I_g11 v2 v3) (fun r18 pr18 => ?_)
        refine sf_oH (fun g19 hg19 => ?_)
        have I_g19 : InvM g19 := by rw [hg19]; exact invM_free I_g11 rfl (by omega) (by omega)
        have ex52 : g19 0 3 = g11 0 3 := by rw [hg19]; exact dU_ne (by omega)
        have yx53 := congrArg Int32.toInt ex52
        have ex54 : g19 0 4 = g11 0 4 := by rw [hg19]; exact dU_ne (by omega)
        have yx55 := congrArg Int32.toInt ex54
        have ex56 : g19 0 13 = g11 0 13 := by rw [hg19]; exact dU_ne (by omega)
        have yx57 := congrArg Int32.toInt ex56
        have yx58 : (g19 0 19).toInt = r18.toInt := by rw [hg19, dU_eq]
        have bx59 := I_g19.1 0 4 (0) (5) rfl
        refine sf_oI (s_X7_read g19 I_g19 (g19 0 4) v1 (by omega)) (fun r20 g21 pg21 => ?_)
        obtain ⟨I_g21, ex60, ex61, ex62, qg21⟩ := pg21
        try simp only at I_g21 ex60 ex61 ex62 qg21
        have yx63 := congrArg Int32.toInt ex60
        have yx64 := congrArg Int32.toInt ex61
        have yx65 := congrArg Int32.toInt ex62
        have tx66 : (0 : Int32).toInt = 0 := by decide
        have tx67 : (60 : Int32).toInt = 60 := by decide
        refine sf_oP (s_X7_within g21 I_g21 r20 (0 : Int32) (60 : Int32)) (fun r22 pr22 => ?_)
        exact sf_some (⟨I_g21, (ex60.trans (ex52.trans (ex29.trans (ex22.trans (ex15.trans (ex8.trans ex1)))))), (ex61.trans (ex54.trans (ex31.trans (ex24.trans (ex17.trans (ex10.trans ex3)))))), (ex62.trans (ex56.trans (ex33.trans (ex26.trans (ex19.trans (ex12.trans ex5)))))), trivial⟩)
    · skip
      refine sf_guard (by omega) (fun c23 => ?_)
      refine sf_oH (fun g24 hg24 => ?_)
      have I_g24 : InvM g24 := by rw [hg24]; exact invM_free I_g5 rfl (by omega) (by omega)
      have ex68 : g24 0 3 = g5 0 3 := by rw [hg24]; exact dU_ne (by omega)
      have yx69 := congrArg Int32.toInt ex68
      have ex70 : g24 0 4 = g5 0 4 := by rw [hg24]; exact dU_ne (by omega)
      have yx71 := congrArg Int32.toInt ex70
      have ex72 : g24 0 13 = g5 0 13 := by rw [hg24]; exact dU_ne (by omega)
      have yx73 := congrArg Int32.toInt ex72
      have yx74 : (g24 0 16).toInt = (g5 5 (v3.toInt.toNat)).toInt := by rw [hg24, dU_eq]
      refine sf_oP (s_X7_seatsOf g24 I_g24 v2 (by omega)) (fun r25 pr25 => ?_)
      refine sf_oH (fun g26 hg26 => ?_)
      have I_g26 : InvM g26 := by rw [hg26]; exact invM_free I_g24 rfl (by omega) (by omega)
      have ex75 : g26 0 3 = g24 0 3 := by rw [hg26]; exact dU_ne (by omega)
      have yx76 := congrArg Int32.toInt ex75
      have ex77 : g26 0 4 = g24 0 4 := by rw [hg26]; exact dU_ne (by omega)
      have yx78 := congrArg Int32.toInt ex77
      have ex79 : g26 0 13 = g24 0 13 := by rw [hg26]; exact dU_ne (by omega)
      have yx80 := congrArg Int32.toInt ex79
      have yx81 : (g26 0 17).toInt = r25.toInt := by rw [hg26, dU_eq]
      refine sf_oH (fun g27 hg27 => ?_)
      have I_g27 : InvM g27 := by rw [hg27]; exact invM_free I_g26 rfl (by omega) (by omega)
      have ex82 : g27 0 3 = g26 0 3 := by rw [hg27]; exact dU_ne (by omega)
      have yx83 := congrArg Int32.toInt ex82
      have ex84 : g27 0 4 = g26 0 4 := by rw [hg27]; exact dU_ne (by omega)
      have yx85 := congrArg Int32.toInt ex84
      have ex86 : g27 0 13 = g26 0 13 := by rw [hg27]; exact dU_ne (by omega)
      have yx87 := congrArg Int32.toInt ex86
      have yx88 : (g27 0 18).toInt = (g26 0 7).toInt := by rw [hg27, dU_eq]
      refine sf_ite (fun c28 => ?_) (fun c29 => ?_)
      · skip
        refine sf_oH (fun g30 hg30 => ?_)
        have I_g30 : InvM g30 := by rw [hg30]; exact invM_free I_g27 rfl (by omega) (by omega)
        have ex89 : g30 0 3 = g27 0 3 := by rw [hg30]; exact dU_ne (by omega)
        have yx90 := congrArg Int32.toInt ex89
        have ex91 : g30 0 4 = g27 0 4 := by rw [hg30]; exact dU_ne (by omega)
        have yx92 := congrArg Int32.toInt ex91
        have ex93 : g30 0 13 = g27 0 13 := by rw [hg30]; exact dU_ne (by omega)
        have yx94 := congrArg Int32.toInt ex93
        have yx95 : (g30 0 19).toInt = 0 := by rw [hg30, dU_eq]; decide
        have bx96 := I_g30.1 0 4 (0) (5) rfl
        refine sf_oI (s_X7_read g30 I_g30 (g30 0 4) v1 (by omega)) (fun r31 g32 pg32 => ?_)
        obtain ⟨I_g32, ex97, ex98, ex99, qg32⟩ := pg32
        try simp only at I_g32 ex97 ex98 ex99 qg32
        have yx100 := congrArg Int32.toInt ex97
        have yx101 := congrArg Int32.toInt ex98
        have yx102 := congrArg Int32.toInt ex99
        have tx103 : (0 : Int32).toInt = 0 := by decide
        have tx104 : (60 : Int32).toInt = 60 := by decide
        refine sf_oP (s_X7_within g32 I_g32 r31 (0 : Int32) (60 : Int32)) (fun r33 pr33 => ?_)
        exact sf_some (⟨I_g32, (ex97.trans (ex89.trans (ex82.trans (ex75.trans (ex68.trans (ex8.trans ex1)))))), (ex98.trans (ex91.trans (ex84.trans (ex77.trans (ex70.trans (ex10.trans ex3)))))), (ex99.trans (ex93.trans (ex86.trans (ex79.trans (ex72.trans (ex12.trans ex5)))))), trivial⟩)
      · skip
        refine sf_oP (s_X7_apart g27 I_g27 v2 v3) (fun r34 pr34 => ?_)
        refine sf_oH (fun g35 hg35 => ?_)
        have I_g35 : InvM g35 := by rw [hg35]; exact invM_free I_g27 rfl (by omega) (by omega)
        have ex105 : g35 0 3 = g27 0 3 := by rw [hg35]; exact dU_ne (by omega)
        have yx106 := congrArg Int32.toInt ex105
        have ex107 : g35 0 4 = g27 0 4 := by rw [hg35]; exact dU_ne (by omega)
        have yx108 := congrArg Int32.toInt ex107
        have ex109 : g35 0 13 = g27 0 13 := by rw [hg35]; exact dU_ne (by omega)
        have yx110 := congrArg Int32.toInt ex109
        have yx111 : (g35 0 19).toInt = r34.toInt := by rw [hg35, dU_eq]
        have bx112 := I_g35.1 0 4 (0) (5) rfl
        refine sf_oI (s_X7_read g35 I_g35 (g35 0 4) v1 (by omega)) (fun r36 g37 pg37 => ?_)
        obtain ⟨I_g37, ex113, ex114, ex115, qg37⟩ := pg37
        try simp only at I_g37 ex113 ex114 ex115 qg37
        have yx116 := congrArg Int32.toInt ex113
        have yx117 := congrArg Int32.toInt ex114
        have yx118 := congrArg Int32.toInt ex115
        have tx119 : (0 : Int32).toInt = 0 := by decide
        have tx120 : (60 : Int32).toInt = 60 := by decide
        refine sf_oP (s_X7_within g37 I_g37 r36 (0 : Int32) (60 : Int32)) (fun r38 pr38 => ?_)
        exact sf_some (⟨I_g37, (ex113.trans (ex105.trans (ex82.trans (ex75.trans (ex68.trans (ex8.trans ex1)))))), (ex114.trans (ex107.trans (ex84.trans (ex77.trans (ex70.trans (ex10.trans ex3)))))), (ex115.trans (ex109.trans (ex86.trans (ex79.trans (ex72.trans (ex12.trans ex5)))))), trivial⟩)
  · skip
    refine sf_oP (s_X7_strengthOf h I_h v2 v3 (by omega) (by omega)) (fun r39 pr39 => ?_)
    refine sf_oH (fun g40 hg40 => ?_)
    have I_g40 : InvM g40 := by rw [hg40]; exact invM_free I_h rfl (by omega) (by omega)
    have ex121 : g40 0 3 = h 0 3 := by rw [hg40]; exact dU_ne (by omega)
    have yx122 := congrArg Int32.toInt ex121
    have ex123 : g40 0 4 = h 0 4 := by rw [hg40]; exact dU_ne (by omega)
    have yx124 := congrArg Int32.toInt ex123
    have ex125 : g40 0 13 = h 0 13 := by rw [hg40]; exact dU_ne (by omega)
    have yx126 := congrArg Int32.toInt ex125
    have yx127 : (g40 0 14).toInt = r39.toInt := by rw [hg40, dU_eq]
    refine sf_guard (by omega) (fun c41 => ?_)
    refine sf_oH (fun g42 hg42 => ?_)
    have I_g42 : InvM g42 := by rw [hg42]; exact invM_free I_g40 rfl (by omega) (by omega)
    have ex128 : g42 0 3 = g40 0 3 := by rw [hg42]; exact dU_ne (by omega)
    have yx129 := congrArg Int32.toInt ex128
    have ex130 : g42 0 4 = g40 0 4 := by rw [hg42]; exact dU_ne (by omega)
    have yx131 := congrArg Int32.toInt ex130
    have ex132 : g42 0 13 = g40 0 13 := by rw [hg42]; exact dU_ne (by omega)
    have yx133 := congrArg Int32.toInt ex132
    have yx134 : (g42 0 15).toInt = (g40 5 (v2.toInt.toNat)).toInt := by rw [hg42, dU_eq]
    refine sf_ite (fun c43 => ?_) (fun c44 => ?_)
    · skip
      refine sf_oH (fun g45 hg45 => ?_)
      have I_g45 : InvM g45 := by rw [hg45]; exact invM_free I_g42 rfl (by omega) (by omega)
      have ex135 : g45 0 3 = g42 0 3 := by rw [hg45]; exact dU_ne (by omega)
      have yx136 := congrArg Int32.toInt ex135
      have ex137 : g45 0 4 = g42 0 4 := by rw [hg45]; exact dU_ne (by omega)
      have yx138 := congrArg Int32.toInt ex137
      have ex139 : g45 0 13 = g42 0 13 := by rw [hg45]; exact dU_ne (by omega)
      have yx140 := congrArg Int32.toInt ex139
      have yx141 : (g45 0 16).toInt = 0 := by rw [hg45, dU_eq]; decide
      refine sf_oP (s_X7_seatsOf g45 I_g45 v2 (by omega)) (fun r46 pr46 => ?_)
      refine sf_oH (fun g47 hg47 => ?_)
      have I_g47 : InvM g47 := by rw [hg47]; exact invM_free I_g45 rfl (by omega) (by omega)
      have ex142 : g47 0 3 = g45 0 3 := by rw [hg47]; exact dU_ne (by omega)
      have yx143 := congrArg Int32.toInt ex142
      have ex144 : g47 0 4 = g45 0 4 := by rw [hg47]; exact dU_ne (by omega)
      have yx145 := congrArg Int32.toInt ex144
      have ex146 : g47 0 13 = g45 0 13 := by rw [hg47]; exact dU_ne (by omega)
      have yx147 := congrArg Int32.toInt ex146
      have yx148 : (g47 0 17).toInt = r46.toInt := by rw [hg47, dU_eq]
      refine sf_oH (fun g48 hg48 => ?_)
      have I_g48 : InvM g48 := by rw [hg48]; exact invM_free I_g47 rfl (by omega) (by omega)
      have ex149 : g48 0 3 = g47 0 3 := by rw [hg48]; exact dU_ne (by omega)
      have yx150 := congrArg Int32.toInt ex149
      have ex151 : g48 0 4 = g47 0 4 := by rw [hg48]; exact dU_ne (by omega)
      have yx152 := congrArg Int32.toInt ex151
      have ex153 : g48 0 13 = g47 0 13 := by rw [hg48]; exact dU_ne (by omega)
      have yx154 := congrArg Int32.toInt ex153
      have yx155 : (g48 0 18).toInt = (g47 0 7).toInt := by rw [hg48, dU_eq]
      refine sf_ite (fun c49 => ?_) (fun c50 => ?_)
      · skip
        refine sf_oH (fun g51 hg51 => ?_)
        have I_g51 : InvM g51 := by rw [hg51]; exact invM_free I_g48 rfl (by omega) (by omega)
        have ex156 : g51 0 3 = g48 0 3 := by rw [hg51]; exact dU_ne (by omega)
        have yx157 := congrArg Int32.toInt ex156
        have ex158 : g51 0 4 = g48 0 4 := by rw [hg51]; exact dU_ne (by omega)
        have yx159 := congrArg Int32.toInt ex158
        have ex160 : g51 0 13 = g48 0 13 := by rw [hg51]; exact dU_ne (by omega)
        have yx161 := congrArg Int32.toInt ex160
        have yx162 : (g51 0 19).toInt = 0 := by rw [hg51, dU_eq]; decide
        have bx163 := I_g51.1 0 4 (0) (5) rfl
        refine sf_oI (s_X7_read g51 I_g51 (g51 0 4) v1 (by omega)) (fun r52 g53 pg53 => ?_)
        obtain ⟨I_g53, ex164, ex165, ex166, qg53⟩ := pg53
        try simp only at I_g53 ex164 ex165 ex166 qg53
        have yx167 := congrArg Int32.toInt ex164
        have yx168 := congrArg Int32.toInt ex165
        have yx169 := congrArg Int32.toInt ex166
        have tx170 : (0 : Int32).toInt = 0 := by decide
        have tx171 : (60 : Int32).toInt = 60 := by decide
        refine sf_oP (s_X7_within g53 I_g53 r52 (0 : Int32) (60 : Int32)) (fun r54 pr54 => ?_)
        exact sf_some (⟨I_g53, (ex164.trans (ex156.trans (ex149.trans (ex142.trans (ex135.trans (ex128.trans ex121)))))), (ex165.trans (ex158.trans (ex151.trans (ex144.trans (ex137.trans (ex130.trans ex123)))))), (ex166.trans (ex160.trans (ex153.trans (ex146.trans (ex139.trans (ex132.trans ex125)))))), trivial⟩)
      · skip
        refine sf_oP (s_X7_apart g48 I_g48 v2 v3) (fun r55 pr55 => ?_)
        refine sf_oH (fun g56 hg56 => ?_)
        have I_g56 : InvM g56 := by rw [hg56]; exact invM_free I_g48 rfl (by omega) (by omega)
        have ex172 : g56 0 3 = g48 0 3 := by rw [hg56]; exact dU_ne (by omega)
        have yx173 := congrArg Int32.toInt ex172
        have ex174 : g56 0 4 = g48 0 4 := by rw [hg56]; exact dU_ne (by omega)
        have yx175 := congrArg Int32.toInt ex174
        have ex176 : g56 0 13 = g48 0 13 := by rw [hg56]; exact dU_ne (by omega)
        have yx177 := congrArg Int32.toInt ex176
        have yx178 : (g56 0 19).toInt = r55.toInt := by rw [hg56, dU_eq]
        have bx179 := I_g56.1 0 4 (0) (5) rfl
        refine sf_oI (s_X7_read g56 I_g56 (g56 0 4) v1 (by omega)) (fun r57 g58 pg58 => ?_)
        obtain ⟨I_g58, ex180, ex181, ex182, qg58⟩ := pg58
        try simp only at I_g58 ex180 ex181 ex182 qg58
        have yx183 := congrArg Int32.toInt ex180
        have yx184 := congrArg Int32.toInt ex181
        have yx185 := congrArg Int32.toInt ex182
        have tx186 : (0 : Int32).toInt = 0 := by decide
        have tx187 : (60 : Int32).toInt = 60 := by decide
        refine sf_oP (s_X7_within g58 I_g58 r57 (0 : Int32) (60 : Int32)) (fun r59 pr59 => ?_)
        exact sf_some (⟨I_g58, (ex180.trans (ex172.trans (ex149.trans (ex142.trans (ex135.trans (ex128.trans ex121)))))), (ex181.trans (ex174.trans (ex151.trans (ex144.trans (ex137.trans (ex130.trans ex123)))))), (ex182.trans (ex176.trans (ex153.trans (ex146.trans (ex139.trans (ex132.trans ex125)))))), trivial⟩)
    · skip
      refine sf_guard (by omega) (fun c60 => ?_)
      refine sf_oH (fun g61 hg61 => ?_)
      have I_g61 : InvM g61 := by rw [hg61]; exact invM_free I_g42 rfl (by omega) (by omega)
      have ex188 : g61 0 3 = g42 0 3 := by rw [hg61]; exact dU_ne (by omega)
      have yx189 := congrArg Int32.toInt ex188
      have ex190 : g61 0 4 = g42 0 4 := by rw [hg61]; exact dU_ne (by omega)
      have yx191 := congrArg Int32.toInt ex190
      have ex192 : g61 0 13 = g42 0 13 := by rw [hg61]; exact dU_ne (by omega)
      have yx193 := congrArg Int32.toInt ex192
      have yx194 : (g61 0 16).toInt = (g42 5 (v3.toInt.toNat)).toInt := by rw [hg61, dU_eq]
      refine sf_oP (s_X7_seatsOf g61 I_g61 v2 (by omega)) (fun r62 pr62 => ?_)
      refine sf_oH (fun g63 hg63 => ?_)
      have I_g63 : InvM g63 := by rw [hg63]; exact invM_free I_g61 rfl (by omega) (by omega)
      have ex195 : g63 0 3 = g61 0 3 := by rw [hg63]; exact dU_ne (by omega)
      have yx196 := congrArg Int32.toInt ex195
      have ex197 : g63 0 4 = g61 0 4 := by rw [hg63]; exact dU_ne (by omega)
      have yx198 := congrArg Int32.toInt ex197
      have ex199 : g63 0 13 = g61 0 13 := by rw [hg63]; exact dU_ne (by omega)
      have yx200 := congrArg Int32.toInt ex199
      have yx201 : (g63 0 17).toInt = r62.toInt := by rw [hg63, dU_eq]
      refine sf_oH (fun g64 hg64 => ?_)
      have I_g64 : InvM g64 := by rw [hg64]; exact invM_free I_g63 rfl (by omega) (by omega)
      have ex202 : g64 0 3 = g63 0 3 := by rw [hg64]; exact dU_ne (by omega)
      have yx203 := congrArg Int32.toInt ex202
      have ex204 : g64 0 4 = g63 0 4 := by rw [hg64]; exact dU_ne (by omega)
      have yx205 := congrArg Int32.toInt ex204
      have ex206 : g64 0 13 = g63 0 13 := by rw [hg64]; exact dU_ne (by omega)
      have yx207 := congrArg Int32.toInt ex206
      have yx208 : (g64 0 18).toInt = (g63 0 7).toInt := by rw [hg64, dU_eq]
      refine sf_ite (fun c65 => ?_) (fun c66 => ?_)
      · skip
        refine sf_oH (fun g67 hg67 => ?_)
        have I_g67 : InvM g67 := by rw [hg67]; exact invM_free I_g64 rfl (by omega) (by omega)
        have ex209 : g67 0 3 = g64 0 3 := by rw [hg67]; exact dU_ne (by omega)
        have yx210 := congrArg Int32.toInt ex209
        have ex211 : g67 0 4 = g64 0 4 := by rw [hg67]; exact dU_ne (by omega)
        have yx212 := congrArg Int32.toInt ex211
        have ex213 : g67 0 13 = g64 0 13 := by rw [hg67]; exact dU_ne (by omega)
        have yx214 := congrArg Int32.toInt ex213
        have yx215 : (g67 0 19).toInt = 0 := by rw [hg67, dU_eq]; decide
        have bx216 := I_g67.1 0 4 (0) (5) rfl
        refine sf_oI (s_X7_read g67 I_g67 (g67 0 4) v1 (by omega)) (fun r68 g69 pg69 => ?_)
        obtain ⟨I_g69, ex217, ex218, ex219, qg69⟩ := pg69
        try simp only at I_g69 ex217 ex218 ex219 qg69
        have yx220 := congrArg Int32.toInt ex217
        have yx221 := congrArg Int32.toInt ex218
        have yx222 := congrArg Int32.toInt ex219
        have tx223 : (0 : Int32).toInt = 0 := by decide
        have tx224 : (60 : Int32).toInt = 60 := by decide
        refine sf_oP (s_X7_within g69 I_g69 r68 (0 : Int32) (60 : Int32)) (fun r70 pr70 => ?_)
        exact sf_some (⟨I_g69, (ex217.trans (ex209.trans (ex202.trans (ex195.trans (ex188.trans (ex128.trans ex121)))))), (ex218.trans (ex211.trans (ex204.trans (ex197.trans (ex190.trans (ex130.trans ex123)))))), (ex219.trans (ex213.trans (ex206.trans (ex199.trans (ex192.trans (ex132.trans ex125)))))), trivial⟩)
      · skip
        refine sf_oP (s_X7_apart g64 I_g64 v2 v3) (fun r71 pr71 => ?_)
        refine sf_oH (fun g72 hg72 => ?_)
        have I_g72 : InvM g72 := by rw [hg72]; exact invM_free I_g64 rfl (by omega) (by omega)
        have ex225 : g72 0 3 = g64 0 3 := by rw [hg72]; exact dU_ne (by omega)
        have yx226 := congrArg Int32.toInt ex225
        have ex227 : g72 0 4 = g64 0 4 := by rw [hg72]; exact dU_ne (by omega)
        have yx228 := congrArg Int32.toInt ex227
        have ex229 : g72 0 13 = g64 0 13 := by rw [hg72]; exact dU_ne (by omega)
        have yx230 := congrArg Int32.toInt ex229
        have yx231 : (g72 0 19).toInt = r71.toInt := by rw [hg72, dU_eq]
        have bx232 := I_g72.1 0 4 (0) (5) rfl
        refine sf_oI (s_X7_read g72 I_g72 (g72 0 4) v1 (by omega)) (fun r73 g74 pg74 => ?_)
        obtain ⟨I_g74, ex233, ex234, ex235, qg74⟩ := pg74
        try simp only at I_g74 ex233 ex234 ex235 qg74
        have yx236 := congrArg Int32.toInt ex233
        have yx237 := congrArg Int32.toInt ex234
        have yx238 := congrArg Int32.toInt ex235
        have tx239 : (0 : Int32).toInt = 0 := by decide
        have tx240 : (60 : Int32).toInt = 60 := by decide
        refine sf_oP (s_X7_within g74 I_g74 r73 (0 : Int32) (60 : Int32)) (fun r75 pr75 => ?_)
        exact sf_some (⟨I_g74, (ex233.trans (ex225.trans (ex202.trans (ex195.trans (ex188.trans (ex128.trans ex121)))))), (ex234.trans (ex227.trans (ex204.trans (ex197.trans (ex190.trans (ex130.trans ex123)))))), (ex235.trans (ex229.trans (ex206.trans (ex199.trans (ex192.trans (ex132.trans ex125)))))), trivial⟩)
theorem s_X7_soundsOf (h : dH) (I_h : InvM h) (v1 : Int32) (q0 : 0 ≤ v1.toInt ∧ v1.toInt ≤ 7) : Sf (f_X7_soundsOf v1 h) (fun o => InvM o.2 ∧ o.2 0 3 = h 0 3 ∧ o.2 0 4 = h 0 4 ∧ o.2 0 13 = h 0 13 ∧ True) := by
  unfold f_X7_soundsOf
  have u_v1 := Int32.toInt_lt v1
  have w_v1 := Int32.le_toInt v1
  refine sf_guard (by omega) (fun c1 => ?_)
  have tx1 : (2 : Int32).toInt = 2 := by decide
  have tx2 : ((-1) : Int32).toInt = (-1) := by decide
  refine sf_oI (s_X7_says h I_h (2 : Int32) v1 ((-1) : Int32) (by omega) (by omega)) (fun r2 g3 pg3 => ?_)
  obtain ⟨I_g3, ex3, ex4, ex5, qg3⟩ := pg3
  try simp only at I_g3 ex3 ex4 ex5 qg3
  have yx6 := congrArg Int32.toInt ex3
  have yx7 := congrArg Int32.toInt ex4
  have yx8 := congrArg Int32.toInt ex5
  refine sf_ite (fun c4 => ?_) (fun c5 => ?_)
  · skip
    exact sf_some (⟨I_g3, ex3, ex4, ex5, trivial⟩)
  · skip
    refine sf_ite (fun c6 => ?_) (fun c7 => ?_)
    · skip
      exact sf_some (⟨I_g3, ex3, ex4, ex5, trivial⟩)
    · skip
      refine sf_ite (fun c8 => ?_) (fun c9 => ?_)
      · skip
        exact sf_some (⟨I_g3, ex3, ex4, ex5, trivial⟩)
      · skip
        refine sf_ite (fun c10 => ?_) (fun c11 => ?_)
        · skip
          exact sf_some (⟨I_g3, ex3, ex4, ex5, trivial⟩)
        · skip
          refine sf_ite (fun c12 => ?_) (fun c13 => ?_)
          · skip
            refine sf_guard (by omega) (fun c14 => ?_)
            exact sf_some (⟨I_g3, ex3, ex4, ex5, trivial⟩)
          · skip
            exact sf_some (⟨I_g3, ex3, ex4, ex5, trivial⟩)
theorem sl_X7_told_171 (v1 : Int32)  (h : dH) (I_h : InvM h) (r_v1 : 0 ≤ v1.toInt ∧ v1.toInt ≤ 7) (k : Int32 → Option (Int32 × dH)) (Q : Int32 × dH → Prop) (hk : ∀ (v4 : Int32), True → Sf (k v4) Q)  : ∀ (n : Nat) (v4 : Int32) (v5 : Int32), 0 ≤ v5.toInt ∧ v5.toInt ≤ 8 → 8 - v5.toInt < (n : Int) → Sf (l_X7_told_171 v1 h k n v4 v5) Q
  | 0, v4, v5, hi, hm => by omega
  | n + 1, v4, v5, hi, hm => by
    rw [l_X7_told_171]
    have bx12 := I_h.1 0 13 (0) (8) rfl
    refine sf_ite (fun c32 => ?_) (fun c33 => ?_)
    · skip
      refine sf_oP (s_X7_knows h I_h v1 v5 (by omega) (by omega)) (fun r34 pr34 => ?_)
      refine sf_ite (fun c35 => ?_) (fun c36 => ?_)
      · skip
        try have tx13 : (v4 + 0).toInt = v4.toInt + 0 := i_add rfl (by decide) (by omega) (by omega)
        try have tx14 : (v5 + 1).toInt = v5.toInt + 1 := i_add rfl (by decide) (by omega) (by omega)
        exact sl_X7_told_171  v1  h I_h r_v1 k Q hk n (v4 + 0) (v5 + 1) (by first | trivial | omega) (by omega)
      · skip
        try have tx15 : (v4 + 1).toInt = v4.toInt + 1 := i_add rfl (by decide) (by omega) (by omega)
        try have tx16 : (v5 + 1).toInt = v5.toInt + 1 := i_add rfl (by decide) (by omega) (by omega)
        exact sl_X7_told_171  v1  h I_h r_v1 k Q hk n (v4 + 1) (v5 + 1) (by first | trivial | omega) (by omega)
    · skip
      exact hk v4 (by first | trivial | omega)
theorem s_X7_told (h : dH) (I_h : InvM h) (v1 : Int32) (v2 : Int32)  : Sf (f_X7_told v1 v2 h) (fun o => InvM o.2 ∧ o.2 0 3 = h 0 3 ∧ o.2 0 4 = h 0 4 ∧ o.2 0 13 = h 0 13 ∧ True) := by
  unfold f_X7_told
  have u_v1 := Int32.toInt_lt v1
  have w_v1 := Int32.le_toInt v1
  have u_v2 := Int32.toInt_lt v2
  have w_v2 := Int32.le_toInt v2
  have tx1 : v2.toInt64.toInt = v2.toInt := l_i2l
  have tx2 : (10 : Int64).toInt = 10 := by decide
  have tx3 : (17 : Int64).toInt = 17 := by decide
  refine sf_oP (s_X7_in h I_h (v2.toInt64) 10 17) (fun r1 pr1 => ?_)
  refine sf_ite (fun c2 => ?_) (fun c3 => ?_)
  · skip
    have tx4 : (0 : Int64).toInt = 0 := by decide
    have tx5 : (7 : Int64).toInt = 7 := by decide
    refine sf_oP (s_X7_in h I_h (v2.toInt64) 0 7) (fun r4 pr4 => ?_)
    refine sf_ite (fun c5 => ?_) (fun c6 => ?_)
    · skip
      exact sf_some (⟨I_h, rfl, rfl, rfl, trivial⟩)
    · skip
      refine sf_ite (fun c7 => ?_) (fun c8 => ?_)
      · skip
        refine sf_oP (s_X7_isHouse h I_h v1) (fun r9 pr9 => ?_)
        refine sf_ite (fun c10 => ?_) (fun c11 => ?_)
        · skip
          exact sf_some (⟨I_h, rfl, rfl, rfl, trivial⟩)
        · skip
          refine sf_ite (fun c12 => ?_) (fun c13 => ?_)
          · skip
            refine sf_ite (fun c14 => ?_) (fun c15 => ?_)
            · skip
              exact sf_some (⟨I_h, rfl, rfl, rfl, trivial⟩)
            · skip
              refine sf_ite (fun c16 => ?_) (fun c17 => ?_)
              · skip
                exact sf_some (⟨I_h, rfl, rfl, rfl, trivial⟩)
              · skip
                refine sf_ite (fun c18 => ?_) (fun c19 => ?_)
                · skip
                  refine sf_guard (by omega) (fun c20 => ?_)
                  exact sf_some (⟨I_h, rfl, rfl, rfl, trivial⟩)
                · skip
                  refine sf_ite (fun c21 => ?_) (fun c22 => ?_)
                  · skip
                    refine sf_guard (by omega) (fun c23 => ?_)
                    exact sf_some (⟨I_h, rfl, rfl, rfl, trivial⟩)
                  · skip
                    refine sf_guard (by omega) (fun c24 => ?_)
                    exact sf_some (⟨I_h, rfl, rfl, rfl, trivial⟩)
          · skip
            refine sf_ite (fun c25 => ?_) (fun c26 => ?_)
            · skip
              refine sf_ite (fun c27 => ?_) (fun c28 => ?_)
              · skip
                refine sf_oP (s_X7_seatsOf h I_h v1 (by omega)) (fun r29 pr29 => ?_)
                exact sf_some (⟨I_h, rfl, rfl, rfl, trivial⟩)
              · skip
                refine sf_oI (s_X7_soundsOf h I_h v1 (by omega)) (fun r30 g31 pg31 => ?_)
                obtain ⟨I_g31, ex6, ex7, ex8, qg31⟩ := pg31
                try simp only at I_g31 ex6 ex7 ex8 qg31
                have yx9 := congrArg Int32.toInt ex6
                have yx10 := congrArg Int32.toInt ex7
                have yx11 := congrArg Int32.toInt ex8
                exact sf_some (⟨I_g31, ex6, ex7, ex8, trivial⟩)
            · skip
              have tx17 : (0 : Int32).toInt = 0 := by decide
              refine sl_X7_told_171 v1  h I_h (by omega) _ _ (fun v4_37 px18 => ?_)  fuel0 (0 : Int32) (0 : Int32)  (by first | trivial | omega) (by have := fuel0_eq; omega)
              exact sf_some (⟨I_h, rfl, rfl, rfl, trivial⟩)
      · skip
        refine sf_ite (fun c39 => ?_) (fun c40 => ?_)
        · skip
          refine sf_ite (fun c41 => ?_) (fun c42 => ?_)
          · skip
            exact sf_some (⟨I_h, rfl, rfl, rfl, trivial⟩)
          · skip
            refine sf_ite (fun c43 => ?_) (fun c44 => ?_)
            · skip
              exact sf_some (⟨I_h, rfl, rfl, rfl, trivial⟩)
            · skip
              refine sf_ite (fun c45 => ?_) (fun c46 => ?_)
              · skip
                refine sf_guard (by omega) (fun c47 => ?_)
                exact sf_some (⟨I_h, rfl, rfl, rfl, trivial⟩)
              · skip
                refine sf_ite (fun c48 => ?_) (fun c49 => ?_)
                · skip
                  refine sf_guard (by omega) (fun c50 => ?_)
                  exact sf_some (⟨I_h, rfl, rfl, rfl, trivial⟩)
                · skip
                  refine sf_guard (by omega) (fun c51 => ?_)
                  exact sf_some (⟨I_h, rfl, rfl, rfl, trivial⟩)
        · skip
          refine sf_ite (fun c52 => ?_) (fun c53 => ?_)
          · skip
            refine sf_ite (fun c54 => ?_) (fun c55 => ?_)
            · skip
              refine sf_oP (s_X7_seatsOf h I_h v1 (by omega)) (fun r56 pr56 => ?_)
              exact sf_some (⟨I_h, rfl, rfl, rfl, trivial⟩)
            · skip
              refine sf_oI (s_X7_soundsOf h I_h v1 (by omega)) (fun r57 g58 pg58 => ?_)
              obtain ⟨I_g58, ex19, ex20, ex21, qg58⟩ := pg58
              try simp only at I_g58 ex19 ex20 ex21 qg58
              have yx22 := congrArg Int32.toInt ex19
              have yx23 := congrArg Int32.toInt ex20
              have yx24 := congrArg Int32.toInt ex21
              exact sf_some (⟨I_g58, ex19, ex20, ex21, trivial⟩)
          · skip
            have tx25 : (0 : Int32).toInt = 0 := by decide
            refine sl_X7_told_171 v1  h I_h (by omega) _ _ (fun v4_59 px26 => ?_)  fuel0 (0 : Int32) (0 : Int32)  (by first | trivial | omega) (by have := fuel0_eq; omega)
            exact sf_some (⟨I_h, rfl, rfl, rfl, trivial⟩)
  · skip
    try have tx27 : (v2 - 10).toInt = v2.toInt - 10 := i_sub rfl (by decide) (by omega) (by omega)
    refine sf_oP (s_X7_isHouse h I_h (v2 - 10)) (fun r61 pr61 => ?_)
    refine sf_ite (fun c62 => ?_) (fun c63 => ?_)
    · skip
      have tx28 : (0 : Int64).toInt = 0 := by decide
      have tx29 : (7 : Int64).toInt = 7 := by decide
      refine sf_oP (s_X7_in h I_h (v2.toInt64) 0 7) (fun r64 pr64 => ?_)
      refine sf_ite (fun c65 => ?_) (fun c66 => ?_)
      · skip
        exact sf_some (⟨I_h, rfl, rfl, rfl, trivial⟩)
      · skip
        refine sf_ite (fun c67 => ?_) (fun c68 => ?_)
        · skip
          refine sf_oP (s_X7_isHouse h I_h v1) (fun r69 pr69 => ?_)
          refine sf_ite (fun c70 => ?_) (fun c71 => ?_)
          · skip
            exact sf_some (⟨I_h, rfl, rfl, rfl, trivial⟩)
          · skip
            refine sf_ite (fun c72 => ?_) (fun c73 => ?_)
            · skip
              refine sf_ite (fun c74 => ?_) (fun c75 => ?_)
              · skip
                exact sf_some (⟨I_h, rfl, rfl, rfl, trivial⟩)
              · skip
                refine sf_ite (fun c76 => ?_) (fun c77 => ?_)
                · skip
                  exact sf_some (⟨I_h, rfl, rfl, rfl, trivial⟩)
                · skip
                  refine sf_ite (fun c78 => ?_) (fun c79 => ?_)
                  · skip
                    refine sf_guard (by omega) (fun c80 => ?_)
                    exact sf_some (⟨I_h, rfl, rfl, rfl, trivial⟩)
                  · skip
                    refine sf_ite (fun c81 => ?_) (fun c82 => ?_)
                    · skip
                      refine sf_guard (by omega) (fun c83 => ?_)
                      exact sf_some (⟨I_h, rfl, rfl, rfl, trivial⟩)
                    · skip
                      refine sf_guard (by omega) (fun c84 => ?_)
                      exact sf_some (⟨I_h, rfl, rfl, rfl, trivial⟩)
            · skip
              refine sf_ite (fun c85 => ?_) (fun c86 => ?_)
              · skip
                refine sf_ite (fun c87 => ?_) (fun c88 => ?_)
                · skip
                  refine sf_oP (s_X7_seatsOf h I_h v1 (by omega)) (fun r89 pr89 => ?_)
                  exact sf_some (⟨I_h, rfl, rfl, rfl, trivial⟩)
                · skip
                  refine sf_oI (s_X7_soundsOf h I_h v1 (by omega)) (fun r90 g91 pg91 => ?_)
                  obtain ⟨I_g91, ex30, ex31, ex32, qg91⟩ := pg91
                  try simp only at I_g91 ex30 ex31 ex32 qg91
                  have yx33 := congrArg Int32.toInt ex30
                  have yx34 := congrArg Int32.toInt ex31
                  have yx35 := congrArg Int32.toInt ex32
                  exact sf_some (⟨I_g91, ex30, ex31, ex32, trivial⟩)
              · skip
                have tx36 : (0 : Int32).toInt = 0 := by decide
                refine sl_X7_told_171 v1  h I_h (by omega) _ _ (fun v4_92 px37 => ?_)  fuel0 (0 : Int32) (0 : Int32)  (by first | trivial | omega) (by have := fuel0_eq; omega)
                exact sf_some (⟨I_h, rfl, rfl, rfl, trivial⟩)
        · skip
          refine sf_ite (fun c94 => ?_) (fun c95 => ?_)
          · skip
            refine sf_ite (fun c96 => ?_) (fun c97 => ?_)
            · skip
              exact sf_some (⟨I_h, rfl, rfl, rfl, trivial⟩)
            · skip
              refine sf_ite (fun c98 => ?_) (fun c99 => ?_)
              · skip
                exact sf_some (⟨I_h, rfl, rfl, rfl, trivial⟩)
              · skip
                refine sf_ite (fun c100 => ?_) (fun c101 => ?_)
                · skip
                  refine sf_guard (by omega) (fun c102 => ?_)
                  exact sf_some (⟨I_h, rfl, rfl, rfl, trivial⟩)
                · skip
                  refine sf_ite (fun c103 => ?_) (fun c104 => ?_)
                  · skip
                    refine sf_guard (by omega) (fun c105 => ?_)
                    exact sf_some (⟨I_h, rfl, rfl, rfl, trivial⟩)
                  · skip
                    refine sf_guard (by omega) (fun c106 => ?_)
                    exact sf_some (⟨I_h, rfl, rfl, rfl, trivial⟩)
          · skip
            refine sf_ite (fun c107 => ?_) (fun c108 => ?_)
            · skip
              refine sf_ite (fun c109 => ?_) (fun c110 => ?_)
              · skip
                refine sf_oP (s_X7_seatsOf h I_h v1 (by omega)) (fun r111 pr111 => ?_)
                exact sf_some (⟨I_h, rfl, rfl, rfl, trivial⟩)
              · skip
                refine sf_oI (s_X7_soundsOf h I_h v1 (by omega)) (fun r112 g113 pg113 => ?_)
                obtain ⟨I_g113, ex38, ex39, ex40, qg113⟩ := pg113
                try simp only at I_g113 ex38 ex39 ex40 qg113
                have yx41 := congrArg Int32.toInt ex38
                have yx42 := congrArg Int32.toInt ex39
                have yx43 := congrArg Int32.toInt ex40
                exact sf_some (⟨I_g113, ex38, ex39, ex40, trivial⟩)
            · skip
              have tx44 : (0 : Int32).toInt = 0 := by decide
              refine sl_X7_told_171 v1  h I_h (by omega) _ _ (fun v4_114 px45 => ?_)  fuel0 (0 : Int32) (0 : Int32)  (by first | trivial | omega) (by have := fuel0_eq; omega)
              exact sf_some (⟨I_h, rfl, rfl, rfl, trivial⟩)
    · skip
      have tx46 : (0 : Int64).toInt = 0 := by decide
      have tx47 : (7 : Int64).toInt = 7 := by decide
      refine sf_oP (s_X7_in h I_h (v2.toInt64) 0 7) (fun r116 pr116 => ?_)
      refine sf_ite (fun c117 => ?_) (fun c118 => ?_)
      · skip
        refine sf_ite (fun c119 => ?_) (fun c120 => ?_)
        · skip
          refine sf_oP (s_X7_isHouse h I_h v1) (fun r121 pr121 => ?_)
          refine sf_ite (fun c122 => ?_) (fun c123 => ?_)
          · skip
            exact sf_some (⟨I_h, rfl, rfl, rfl, trivial⟩)
          · skip
            refine sf_oP (s_X7_strengthOf h I_h v1 (v2 - 10) (by omega) (by omega)) (fun r124 pr124 => ?_)
            exact sf_some (⟨I_h, rfl, rfl, rfl, trivial⟩)
        · skip
          refine sf_oP (s_X7_strengthOf h I_h v1 (v2 - 10) (by omega) (by omega)) (fun r125 pr125 => ?_)
          exact sf_some (⟨I_h, rfl, rfl, rfl, trivial⟩)
      · skip
        refine sf_ite (fun c126 => ?_) (fun c127 => ?_)
        · skip
          refine sf_oP (s_X7_isHouse h I_h v1) (fun r128 pr128 => ?_)
          refine sf_ite (fun c129 => ?_) (fun c130 => ?_)
          · skip
            exact sf_some (⟨I_h, rfl, rfl, rfl, trivial⟩)
          · skip
            refine sf_oP (s_X7_strengthOf h I_h v1 (v2 - 10) (by omega) (by omega)) (fun r131 pr131 => ?_)
            exact sf_some (⟨I_h, rfl, rfl, rfl, trivial⟩)
        · skip
          refine sf_oP (s_X7_strengthOf h I_h v1 (v2 - 10) (by omega) (by omega)) (fun r132 pr132 => ?_)
          exact sf_some (⟨I_h, rfl, rfl, rfl, trivial⟩)
theorem s_X7_set (h : dH) (I_h : InvM h) (v1 : Int32) (v2 : Int32) (v3 : Int32)  : Sf (f_X7_set v1 v2 v3 h) (fun o => InvM o.2 ∧ o.2 0 3 = h 0 3 ∧ o.2 0 13 = h 0 13 ∧ True) := by
  unfold f_X7_set
  have u_v1 := Int32.toInt_lt v1
  have w_v1 := Int32.le_toInt v1
  have u_v2 := Int32.toInt_lt v2
  have w_v2 := Int32.le_toInt v2
  have u_v3 := Int32.toInt_lt v3
  have w_v3 := Int32.le_toInt v3
  have tx1 : v1.toInt64.toInt = v1.toInt := l_i2l
  have tx2 : (0 : Int64).toInt = 0 := by decide
  have tx3 : (3 : Int64).toInt = 3 := by decide
  refine sf_oP (s_X7_in h I_h (v1.toInt64) 0 3) (fun r1 pr1 => ?_)
  refine sf_ite (fun c2 => ?_) (fun c3 => ?_)
  · skip
    exact sf_some (⟨I_h, rfl, rfl, trivial⟩)
  · skip
    refine sf_ite (fun c4 => ?_) (fun c5 => ?_)
    · skip
      refine sf_oP (s_X7_isHouse h I_h v2) (fun r6 pr6 => ?_)
      refine sf_ite (fun c7 => ?_) (fun c8 => ?_)
      · skip
        exact sf_some (⟨I_h, rfl, rfl, trivial⟩)
      · skip
        refine sf_oP (s_X7_isValue h I_h v1 v3) (fun r9 pr9 => ?_)
        refine sf_ite (fun c10 => ?_) (fun c11 => ?_)
        · skip
          exact sf_some (⟨I_h, rfl, rfl, trivial⟩)
        · skip
          refine sf_oI (s_X7_told h I_h v2 v1) (fun r12 g13 pg13 => ?_)
          obtain ⟨I_g13, ex4, ex5, ex6, qg13⟩ := pg13
          try simp only at I_g13 ex4 ex5 ex6 qg13
          have yx7 := congrArg Int32.toInt ex4
          have yx8 := congrArg Int32.toInt ex5
          have yx9 := congrArg Int32.toInt ex6
          refine sf_oV (s_X7_lays g13 I_g13 v1 v2 v3 (by omega)) (fun g14 pg14 => ?_)
          obtain ⟨I_g14, ex10, ex11, qg14⟩ := pg14
          try simp only at I_g14 ex10 ex11 qg14
          have yx12 := congrArg Int32.toInt ex10
          have yx13 := congrArg Int32.toInt ex11
          exact sf_some (⟨I_g14, (ex10.trans ex4), (ex11.trans ex6), trivial⟩)
    · skip
      refine sf_oP (s_X7_isValue h I_h v1 v3) (fun r15 pr15 => ?_)
      refine sf_ite (fun c16 => ?_) (fun c17 => ?_)
      · skip
        exact sf_some (⟨I_h, rfl, rfl, trivial⟩)
      · skip
        refine sf_oI (s_X7_told h I_h v2 v1) (fun r18 g19 pg19 => ?_)
        obtain ⟨I_g19, ex14, ex15, ex16, qg19⟩ := pg19
        try simp only at I_g19 ex14 ex15 ex16 qg19
        have yx17 := congrArg Int32.toInt ex14
        have yx18 := congrArg Int32.toInt ex15
        have yx19 := congrArg Int32.toInt ex16
        refine sf_oV (s_X7_lays g19 I_g19 v1 v2 v3 (by omega)) (fun g20 pg20 => ?_)
        obtain ⟨I_g20, ex20, ex21, qg20⟩ := pg20
        try simp only at I_g20 ex20 ex21 qg20
        have yx22 := congrArg Int32.toInt ex20
        have yx23 := congrArg Int32.toInt ex21
        exact sf_some (⟨I_g20, (ex20.trans ex14), (ex21.trans ex16), trivial⟩)
theorem s_X7_binds (h : dH) (I_h : InvM h) (v1 : Int32) (v2 : Int32) (v3 : Int32) (q0 : 0 ≤ v1.toInt ∧ v1.toInt ≤ 7) (q1 : 0 ≤ v2.toInt ∧ v2.toInt ≤ 7) : Sf (f_X7_binds v1 v2 v3 h) (fun o => InvM o ∧ o 0 3 = h 0 3 ∧ o 0 4 = h 0 4 ∧ o 0 13 = h 0 13 ∧ (∀ k, o 14 k = h 14 k) ∧ (∀ k, o 16 k = h 16 k) ∧ True) := by
  unfold f_X7_binds
  have u_v1 := Int32.toInt_lt v1
  have w_v1 := Int32.le_toInt v1
  have u_v2 := Int32.toInt_lt v2
  have w_v2 := Int32.le_toInt v2
  have u_v3 := Int32.toInt_lt v3
  have w_v3 := Int32.le_toInt v3
  have tx1 : (0 : Int32).toInt = 0 := by decide
  have tx2 : (99 : Int32).toInt = 99 := by decide
  refine sf_oP (s_X7_within h I_h v3 (0 : Int32) (99 : Int32)) (fun r1 pr1 => ?_)
  try have tx3 : (8 * v1).toInt = 8 * v1.toInt := i_mul (by decide) rfl (by omega) (by omega)
  try have tx4 : ((8 * v1) + v2).toInt = (8 * v1).toInt + v2.toInt := i_add rfl rfl (by omega) (by omega)
  refine sf_guard (by omega) (fun c3 => ?_)
  refine sf_oH (fun g2 hg2 => ?_)
  have I_g2 : InvM g2 := by rw [hg2]; exact invM_free I_h rfl (by omega) (by omega)
  have ex5 : g2 0 3 = h 0 3 := by rw [hg2]; exact dU_ne (by omega)
  have yx6 := congrArg Int32.toInt ex5
  have ex7 : g2 0 4 = h 0 4 := by rw [hg2]; exact dU_ne (by omega)
  have yx8 := congrArg Int32.toInt ex7
  have ex9 : g2 0 13 = h 0 13 := by rw [hg2]; exact dU_ne (by omega)
  have yx10 := congrArg Int32.toInt ex9
  have ex11 : (∀ k, g2 14 k = h 14 k) := by intro k; rw [hg2]; exact dU_ne (by omega)
  have ex12 : (∀ k, g2 16 k = h 16 k) := by intro k; rw [hg2]; exact dU_ne (by omega)
  try have tx13 : (8 * v2).toInt = 8 * v2.toInt := i_mul (by decide) rfl (by omega) (by omega)
  try have tx14 : ((8 * v2) + v1).toInt = (8 * v2).toInt + v1.toInt := i_add rfl rfl (by omega) (by omega)
  refine sf_guard (by omega) (fun c5 => ?_)
  refine sf_oH (fun g4 hg4 => ?_)
  have I_g4 : InvM g4 := by rw [hg4]; exact invM_free I_g2 rfl (by omega) (by omega)
  have ex15 : g4 0 3 = g2 0 3 := by rw [hg4]; exact dU_ne (by omega)
  have yx16 := congrArg Int32.toInt ex15
  have ex17 : g4 0 4 = g2 0 4 := by rw [hg4]; exact dU_ne (by omega)
  have yx18 := congrArg Int32.toInt ex17
  have ex19 : g4 0 13 = g2 0 13 := by rw [hg4]; exact dU_ne (by omega)
  have yx20 := congrArg Int32.toInt ex19
  have ex21 : (∀ k, g4 14 k = g2 14 k) := by intro k; rw [hg4]; exact dU_ne (by omega)
  have ex22 : (∀ k, g4 16 k = g2 16 k) := by intro k; rw [hg4]; exact dU_ne (by omega)
  exact sf_some (⟨I_g4, (ex15.trans ex5), (ex17.trans ex7), (ex19.trans ex9), (fun k => (ex21 k).trans (ex11 k)), (fun k => (ex22 k).trans (ex12 k)), trivial⟩)
theorem sl_X7_house_71   (h0 : dH) (I_h0 : InvM h0)  (rn0 : (h0 0 13).toInt ≤ 7) (k : dH → Option (Int32 × dH)) (Q : Int32 × dH → Prop) (hk : ∀  (g : dH) (Ig : InvM g) (e0 : g 0 3 = h0 0 3) (e1 : g 0 4 = h0 0 4) (e2 : g 0 13 = h0 0 13) (e3 : (∀ k, g 14 k = h0 14 k)) (e4 : (∀ k, g 16 k = h0 16 k)), True → Sf (k  g) Q)  : ∀ (n : Nat) (v3 : Int32) (h : dH) (I_h : InvM h) (e0 : h 0 3 = h0 0 3) (e1 : h 0 4 = h0 0 4) (e2 : h 0 13 = h0 0 13) (e3 : (∀ k, h 14 k = h0 14 k)) (e4 : (∀ k, h 16 k = h0 16 k)), 0 ≤ v3.toInt ∧ v3.toInt ≤ 8 → 8 - v3.toInt < (n : Int) → Sf (l_X7_house_71  k n v3 h) Q
  | 0, v3, h, I_h, e0, e1, e2, e3, e4, hi, hm => by omega
  | n + 1, v3, h, I_h, e0, e1, e2, e3, e4, hi, hm => by
    rw [l_X7_house_71]
    have yx33 := congrArg Int32.toInt e0
    have yx34 := congrArg Int32.toInt e1
    have yx35 := congrArg Int32.toInt e2
    refine sf_ite (fun c15 => ?_) (fun c16 => ?_)
    · skip
      have bx36 := I_h.1 0 13 (0) (8) rfl
      have tx37 : (0 : Int32).toInt = 0 := by decide
      refine sf_oV (s_X7_binds h I_h (h 0 13) v3 (0 : Int32) (by omega) (by omega)) (fun g17 pg17 => ?_)
      obtain ⟨I_g17, ex38, ex39, ex40, ex41, ex42, qg17⟩ := pg17
      try simp only at I_g17 ex38 ex39 ex40 ex41 ex42 qg17
      have yx43 := congrArg Int32.toInt ex38
      have yx44 := congrArg Int32.toInt ex39
      have yx45 := congrArg Int32.toInt ex40
      try have tx46 : (v3 + 1).toInt = v3.toInt + 1 := i_add rfl (by decide) (by omega) (by omega)
      exact sl_X7_house_71    h0 I_h0 rn0 k Q hk n (v3 + 1) g17 I_g17 (ex38.trans e0) (ex39.trans e1) (ex40.trans e2) (fun k => (ex41 k).trans (e3 k)) (fun k => (ex42 k).trans (e4 k)) (by first | trivial | omega) (by omega)
    · skip
      exact hk  h I_h e0 e1 e2 e3 e4 (by first | trivial | omega)
theorem s_X7_house (h : dH) (I_h : InvM h) (v1 : Int32) (v2 : Int32)  : Sf (f_X7_house v1 v2 h) (fun o => InvM o.2 ∧ o.2 0 3 = h 0 3 ∧ o.2 0 4 = h 0 4 ∧ (∀ k, o.2 14 k = h 14 k) ∧ (∀ k, o.2 16 k = h 16 k) ∧ True) := by
  unfold f_X7_house
  have u_v1 := Int32.toInt_lt v1
  have w_v1 := Int32.le_toInt v1
  have u_v2 := Int32.toInt_lt v2
  have w_v2 := Int32.le_toInt v2
  have tx1 : v1.toInt64.toInt = v1.toInt := l_i2l
  have tx2 : (0 : Int64).toInt = 0 := by decide
  have tx3 : (5 : Int64).toInt = 5 := by decide
  refine sf_oP (s_X7_in h I_h (v1.toInt64) 0 5) (fun r1 pr1 => ?_)
  refine sf_ite (fun c2 => ?_) (fun c3 => ?_)
  · skip
    exact sf_some (⟨I_h, rfl, rfl, (fun _ => rfl), (fun _ => rfl), trivial⟩)
  · skip
    have tx4 : v2.toInt64.toInt = v2.toInt := l_i2l
    have tx5 : (9 : Int64).toInt = 9 := by decide
    refine sf_oP (s_X7_in h I_h (v2.toInt64) 0 9) (fun r4 pr4 => ?_)
    refine sf_ite (fun c5 => ?_) (fun c6 => ?_)
    · skip
      exact sf_some (⟨I_h, rfl, rfl, (fun _ => rfl), (fun _ => rfl), trivial⟩)
    · skip
      have bx6 := I_h.1 0 13 (0) (8) rfl
      refine sf_ite (fun c7 => ?_) (fun c8 => ?_)
      · skip
        exact sf_some (⟨I_h, rfl, rfl, (fun _ => rfl), (fun _ => rfl), trivial⟩)
      · skip
        refine sf_guard (by omega) (fun c10 => ?_)
        refine sf_oH (fun g9 hg9 => ?_)
        have I_g9 : InvM g9 := by rw [hg9]; exact invM_free I_h rfl (by omega) (by omega)
        have ex7 : g9 0 3 = h 0 3 := by rw [hg9]; exact dU_ne (by omega)
        have yx8 := congrArg Int32.toInt ex7
        have ex9 : g9 0 4 = h 0 4 := by rw [hg9]; exact dU_ne (by omega)
        have yx10 := congrArg Int32.toInt ex9
        have ex11 : g9 0 13 = h 0 13 := by rw [hg9]; exact dU_ne (by omega)
        have yx12 := congrArg Int32.toInt ex11
        have ex13 : (∀ k, g9 14 k = h 14 k) := by intro k; rw [hg9]; exact dU_ne (by omega)
        have ex14 : (∀ k, g9 16 k = h 16 k) := by intro k; rw [hg9]; exact dU_ne (by omega)
        have bx15 := I_g9.1 0 13 (0) (8) rfl
        refine sf_guard (by omega) (fun c12 => ?_)
        refine sf_oH (fun g11 hg11 => ?_)
        have I_g11 : InvM g11 := by rw [hg11]; exact invM_free I_g9 rfl (by omega) (by omega)
        have ex16 : g11 0 3 = g9 0 3 := by rw [hg11]; exact dU_ne (by omega)
        have yx17 := congrArg Int32.toInt ex16
        have ex18 : g11 0 4 = g9 0 4 := by rw [hg11]; exact dU_ne (by omega)
        have yx19 := congrArg Int32.toInt ex18
        have ex20 : g11 0 13 = g9 0 13 := by rw [hg11]; exact dU_ne (by omega)
        have yx21 := congrArg Int32.toInt ex20
        have ex22 : (∀ k, g11 14 k = g9 14 k) := by intro k; rw [hg11]; exact dU_ne (by omega)
        have ex23 : (∀ k, g11 16 k = g9 16 k) := by intro k; rw [hg11]; exact dU_ne (by omega)
        have bx24 := I_g11.1 0 13 (0) (8) rfl
        refine sf_guard (by omega) (fun c14 => ?_)
        refine sf_oH (fun g13 hg13 => ?_)
        have I_g13 : InvM g13 := by rw [hg13]; exact invM_free I_g11 rfl (by omega) (by omega)
        have ex25 : g13 0 3 = g11 0 3 := by rw [hg13]; exact dU_ne (by omega)
        have yx26 := congrArg Int32.toInt ex25
        have ex27 : g13 0 4 = g11 0 4 := by rw [hg13]; exact dU_ne (by omega)
        have yx28 := congrArg Int32.toInt ex27
        have ex29 : g13 0 13 = g11 0 13 := by rw [hg13]; exact dU_ne (by omega)
        have yx30 := congrArg Int32.toInt ex29
        have ex31 : (∀ k, g13 14 k = g11 14 k) := by intro k; rw [hg13]; exact dU_ne (by omega)
        have ex32 : (∀ k, g13 16 k = g11 16 k) := by intro k; rw [hg13]; exact dU_ne (by omega)
        have tx47 : (0 : Int32).toInt = 0 := by decide
        refine sl_X7_house_71   g13 I_g13 (by omega) _ _ (fun g19 I_g19 eg19_0 eg19_1 eg19_2 eg19_3 eg19_4 px48 => ?_)  fuel0 (0 : Int32) g13 I_g13 rfl rfl rfl (fun _ => rfl) (fun _ => rfl) (by first | trivial | omega) (by have := fuel0_eq; omega)
        have yx49 := congrArg Int32.toInt eg19_0
        have yx50 := congrArg Int32.toInt eg19_1
        have yx51 := congrArg Int32.toInt eg19_2
        have bx52 := I_g19.1 0 13 (0) (8) rfl
        try have tx53 : ((g19 0 13) + 1).toInt = (g19 0 13).toInt + 1 := i_add rfl (by decide) (by omega) (by omega)
        refine sf_oH (fun g20 hg20 => ?_)
        have I_g20 : InvM g20 := by rw [hg20]; exact invM_set (l := 0) (u := 8) I_g19 rfl (by omega) (by omega) (by omega)
        have ex54 : g20 0 3 = g19 0 3 := by rw [hg20]; exact dU_ne (by omega)
        have yx55 := congrArg Int32.toInt ex54
        have ex56 : g20 0 4 = g19 0 4 := by rw [hg20]; exact dU_ne (by omega)
        have yx57 := congrArg Int32.toInt ex56
        have ex58 : (∀ k, g20 14 k = g19 14 k) := by intro k; rw [hg20]; exact dU_ne (by omega)
        have ex59 : (∀ k, g20 16 k = g19 16 k) := by intro k; rw [hg20]; exact dU_ne (by omega)
        have yx60 : (g20 0 13).toInt = ((g19 0 13) + 1).toInt := by rw [hg20, dU_eq]
        exact sf_some (⟨I_g20, (ex54.trans (eg19_0.trans (ex25.trans (ex16.trans ex7)))), (ex56.trans (eg19_1.trans (ex27.trans (ex18.trans ex9)))), (fun k => (ex58 k).trans ((fun k => (eg19_3 k).trans ((fun k => (ex31 k).trans ((fun k => (ex22 k).trans (ex13 k)) k)) k)) k)), (fun k => (ex59 k).trans ((fun k => (eg19_4 k).trans ((fun k => (ex32 k).trans ((fun k => (ex23 k).trans (ex14 k)) k)) k)) k)), trivial⟩)
theorem s_X7_areTwo (h : dH) (I_h : InvM h) (v1 : Int32) (v2 : Int32)  : Sf (f_X7_areTwo v1 v2 h) (fun r => r.toInt = 0 ∨ (0 ≤ v1.toInt ∧ v1.toInt ≤ 7 ∧ 0 ≤ v2.toInt ∧ v2.toInt ≤ 7)) := by
  unfold f_X7_areTwo
  have u_v1 := Int32.toInt_lt v1
  have w_v1 := Int32.le_toInt v1
  have u_v2 := Int32.toInt_lt v2
  have w_v2 := Int32.le_toInt v2
  refine sf_oP (s_X7_isHouse h I_h v1) (fun r1 pr1 => ?_)
  refine sf_ite (fun c2 => ?_) (fun c3 => ?_)
  · skip
    have tx1 : (0 : Int32).toInt = 0 := by decide
    exact sf_some ((show (0 : Int32).toInt = 0 ∨ (0 ≤ v1.toInt ∧ v1.toInt ≤ 7 ∧ 0 ≤ v2.toInt ∧ v2.toInt ≤ 7) by omega))
  · skip
    refine sf_oP (s_X7_isHouse h I_h v2) (fun r4 pr4 => ?_)
    refine sf_ite (fun c5 => ?_) (fun c6 => ?_)
    · skip
      have tx2 : (0 : Int32).toInt = 0 := by decide
      exact sf_some ((show (0 : Int32).toInt = 0 ∨ (0 ≤ v1.toInt ∧ v1.toInt ≤ 7 ∧ 0 ≤ v2.toInt ∧ v2.toInt ≤ 7) by omega))
    · skip
      refine sf_ite (fun c7 => ?_) (fun c8 => ?_)
      · skip
        have tx3 : (0 : Int32).toInt = 0 := by decide
        exact sf_some ((show (0 : Int32).toInt = 0 ∨ (0 ≤ v1.toInt ∧ v1.toInt ≤ 7 ∧ 0 ≤ v2.toInt ∧ v2.toInt ≤ 7) by omega))
      · skip
        have tx4 : (1 : Int32).toInt = 1 := by decide
        exact sf_some ((show (1 : Int32).toInt = 0 ∨ (0 ≤ v1.toInt ∧ v1.toInt ≤ 7 ∧ 0 ≤ v2.toInt ∧ v2.toInt ≤ 7) by omega))
theorem s_X7_bind (h : dH) (I_h : InvM h) (v1 : Int32) (v2 : Int32) (v3 : Int32)  : Sf (f_X7_bind v1 v2 v3 h) (fun o => InvM o.2 ∧ o.2 0 3 = h 0 3 ∧ o.2 0 4 = h 0 4 ∧ o.2 0 13 = h 0 13 ∧ True) := by
  unfold f_X7_bind
  have u_v1 := Int32.toInt_lt v1
  have w_v1 := Int32.le_toInt v1
  have u_v2 := Int32.toInt_lt v2
  have w_v2 := Int32.le_toInt v2
  have u_v3 := Int32.toInt_lt v3
  have w_v3 := Int32.le_toInt v3
  refine sf_oP (s_X7_areTwo h I_h v1 v2) (fun r1 pr1 => ?_)
  refine sf_ite (fun c2 => ?_) (fun c3 => ?_)
  · skip
    exact sf_some (⟨I_h, rfl, rfl, rfl, trivial⟩)
  · skip
    have tx1 : v3.toInt64.toInt = v3.toInt := l_i2l
    have tx2 : (0 : Int64).toInt = 0 := by decide
    have tx3 : (99 : Int64).toInt = 99 := by decide
    refine sf_oP (s_X7_in h I_h (v3.toInt64) 0 99) (fun r4 pr4 => ?_)
    refine sf_ite (fun c5 => ?_) (fun c6 => ?_)
    · skip
      exact sf_some (⟨I_h, rfl, rfl, rfl, trivial⟩)
    · skip
      refine sf_oP (s_X7_strengthOf h I_h v1 v2 (by omega) (by omega)) (fun r7 pr7 => ?_)
      refine sf_oV (s_X7_binds h I_h v1 v2 v3 (by omega) (by omega)) (fun g8 pg8 => ?_)
      obtain ⟨I_g8, ex4, ex5, ex6, ex7, ex8, qg8⟩ := pg8
      try simp only at I_g8 ex4 ex5 ex6 ex7 ex8 qg8
      have yx9 := congrArg Int32.toInt ex4
      have yx10 := congrArg Int32.toInt ex5
      have yx11 := congrArg Int32.toInt ex6
      exact sf_some (⟨I_g8, ex4, ex5, ex6, trivial⟩)
theorem s_X7_feed (h : dH) (I_h : InvM h) (v1 : Int32)  : Sf (f_X7_feed v1 h) (fun o => InvM o.2 ∧ o.2 0 3 = h 0 3 ∧ o.2 0 4 = h 0 4 ∧ o.2 0 13 = h 0 13 ∧ True) := by
  unfold f_X7_feed
  have u_v1 := Int32.toInt_lt v1
  have w_v1 := Int32.le_toInt v1
  have tx1 : v1.toInt64.toInt = v1.toInt := l_i2l
  have tx2 : (0 : Int64).toInt = 0 := by decide
  have tx3 : (255 : Int64).toInt = 255 := by decide
  refine sf_oP (s_X7_in h I_h (v1.toInt64) 0 255) (fun r1 pr1 => ?_)
  refine sf_ite (fun c2 => ?_) (fun c3 => ?_)
  · skip
    exact sf_some (⟨I_h, rfl, rfl, rfl, trivial⟩)
  · skip
    have bx4 := I_h.1 0 6 (0) (160) rfl
    refine sf_ite (fun c4 => ?_) (fun c5 => ?_)
    · skip
      exact sf_some (⟨I_h, rfl, rfl, rfl, trivial⟩)
    · skip
      refine sf_guard (by omega) (fun c7 => ?_)
      refine sf_oH (fun g6 hg6 => ?_)
      have I_g6 : InvM g6 := by rw [hg6]; exact invM_set (l := 0) (u := 255) I_h rfl (by omega) (by omega) (by omega)
      have ex5 : g6 0 3 = h 0 3 := by rw [hg6]; exact dU_ne (by omega)
      have yx6 := congrArg Int32.toInt ex5
      have ex7 : g6 0 4 = h 0 4 := by rw [hg6]; exact dU_ne (by omega)
      have yx8 := congrArg Int32.toInt ex7
      have ex9 : g6 0 13 = h 0 13 := by rw [hg6]; exact dU_ne (by omega)
      have yx10 := congrArg Int32.toInt ex9
      have ex11 : g6 0 6 = h 0 6 := by rw [hg6]; exact dU_ne (by omega)
      have yx12 := congrArg Int32.toInt ex11
      have bx13 := I_g6.1 0 6 (0) (160) rfl
      try have tx14 : ((g6 0 6) + 1).toInt = (g6 0 6).toInt + 1 := i_add rfl (by decide) (by omega) (by omega)
      refine sf_oH (fun g8 hg8 => ?_)
      have I_g8 : InvM g8 := by rw [hg8]; exact invM_set (l := 0) (u := 160) I_g6 rfl (by omega) (by omega) (by omega)
      have ex15 : g8 0 3 = g6 0 3 := by rw [hg8]; exact dU_ne (by omega)
      have yx16 := congrArg Int32.toInt ex15
      have ex17 : g8 0 4 = g6 0 4 := by rw [hg8]; exact dU_ne (by omega)
      have yx18 := congrArg Int32.toInt ex17
      have ex19 : g8 0 13 = g6 0 13 := by rw [hg8]; exact dU_ne (by omega)
      have yx20 := congrArg Int32.toInt ex19
      have yx21 : (g8 0 6).toInt = ((g6 0 6) + 1).toInt := by rw [hg8, dU_eq]
      exact sf_some (⟨I_g8, (ex15.trans ex5), (ex17.trans ex7), (ex19.trans ex9), trivial⟩)
theorem sl_X7_text_14   (h0 : dH) (I_h0 : InvM h0)  (rn0 : (h0 0 3).toInt ≤ 5) (k : dH → Option (Int32 × dH)) (Q : Int32 × dH → Prop) (hk : ∀  (g : dH) (Ig : InvM g) (e0 : g 0 3 = h0 0 3) (e1 : g 0 4 = h0 0 4) (e2 : g 0 13 = h0 0 13), True → Sf (k  g) Q)  : ∀ (n : Nat) (v1 : Int32) (h : dH) (I_h : InvM h) (e0 : h 0 3 = h0 0 3) (e1 : h 0 4 = h0 0 4) (e2 : h 0 13 = h0 0 13), 0 ≤ v1.toInt ∧ v1.toInt ≤ 160 → 160 - v1.toInt < (n : Int) → Sf (l_X7_text_14  k n v1 h) Q
  | 0, v1, h, I_h, e0, e1, e2, hi, hm => by omega
  | n + 1, v1, h, I_h, e0, e1, e2, hi, hm => by
    rw [l_X7_text_14]
    have yx2 := congrArg Int32.toInt e0
    have yx3 := congrArg Int32.toInt e1
    have yx4 := congrArg Int32.toInt e2
    have bx5 := I_h.1 0 6 (0) (160) rfl
    refine sf_ite (fun c3 => ?_) (fun c4 => ?_)
    · skip
      refine sf_guard (by omega) (fun c5 => ?_)
      have bx6 := I_h.1 0 3 (0) (6) rfl
      try have tx7 : (160 * (h 0 3)).toInt = 160 * (h 0 3).toInt := i_mul (by decide) rfl (by omega) (by omega)
      try have tx8 : ((160 * (h 0 3)) + v1).toInt = (160 * (h 0 3)).toInt + v1.toInt := i_add rfl rfl (by omega) (by omega)
      refine sf_guard (by omega) (fun c7 => ?_)
      have bx9 := I_h.1 3 (v1.toInt.toNat) (0) (255) rfl
      refine sf_oH (fun g6 hg6 => ?_)
      have I_g6 : InvM g6 := by rw [hg6]; exact invM_set (l := 0) (u := 255) I_h rfl (by omega) (by omega) (by omega)
      have ex10 : g6 0 3 = h 0 3 := by rw [hg6]; exact dU_ne (by omega)
      have yx11 := congrArg Int32.toInt ex10
      have ex12 : g6 0 4 = h 0 4 := by rw [hg6]; exact dU_ne (by omega)
      have yx13 := congrArg Int32.toInt ex12
      have ex14 : g6 0 13 = h 0 13 := by rw [hg6]; exact dU_ne (by omega)
      have yx15 := congrArg Int32.toInt ex14
      try have tx16 : (v1 + 1).toInt = v1.toInt + 1 := i_add rfl (by decide) (by omega) (by omega)
      exact sl_X7_text_14    h0 I_h0 rn0 k Q hk n (v1 + 1) g6 I_g6 (ex10.trans e0) (ex12.trans e1) (ex14.trans e2) (by first | trivial | omega) (by omega)
    · skip
      exact hk  h I_h e0 e1 e2 (by first | trivial | omega)
theorem s_X7_text (h : dH) (I_h : InvM h)   : Sf (f_X7_text  h) (fun o => InvM o.2 ∧ o.2 0 4 = h 0 4 ∧ o.2 0 13 = h 0 13 ∧ True) := by
  unfold f_X7_text
  have bx1 := I_h.1 0 3 (0) (6) rfl
  refine sf_ite (fun c1 => ?_) (fun c2 => ?_)
  · skip
    exact sf_some (⟨I_h, rfl, rfl, trivial⟩)
  · skip
    have tx17 : (0 : Int32).toInt = 0 := by decide
    refine sl_X7_text_14   h I_h (by omega) _ _ (fun g9 I_g9 eg9_0 eg9_1 eg9_2 px18 => ?_)  fuel0 (0 : Int32) h I_h rfl rfl rfl (by first | trivial | omega) (by have := fuel0_eq; omega)
    have yx19 := congrArg Int32.toInt eg9_0
    have yx20 := congrArg Int32.toInt eg9_1
    have yx21 := congrArg Int32.toInt eg9_2
    have bx22 := I_g9.1 0 3 (0) (6) rfl
    refine sf_guard (by omega) (fun c11 => ?_)
    have bx23 := I_g9.1 0 6 (0) (160) rfl
    refine sf_oH (fun g10 hg10 => ?_)
    have I_g10 : InvM g10 := by rw [hg10]; exact invM_set (l := 0) (u := 160) I_g9 rfl (by omega) (by omega) (by omega)
    have ex24 : g10 0 3 = g9 0 3 := by rw [hg10]; exact dU_ne (by omega)
    have yx25 := congrArg Int32.toInt ex24
    have ex26 : g10 0 4 = g9 0 4 := by rw [hg10]; exact dU_ne (by omega)
    have yx27 := congrArg Int32.toInt ex26
    have ex28 : g10 0 13 = g9 0 13 := by rw [hg10]; exact dU_ne (by omega)
    have yx29 := congrArg Int32.toInt ex28
    refine sf_oH (fun g12 hg12 => ?_)
    have I_g12 : InvM g12 := by rw [hg12]; exact invM_set (l := 0) (u := 160) I_g10 rfl (by decide) (by omega) (by omega)
    have ex30 : g12 0 3 = g10 0 3 := by rw [hg12]; exact dU_ne (by omega)
    have yx31 := congrArg Int32.toInt ex30
    have ex32 : g12 0 4 = g10 0 4 := by rw [hg12]; exact dU_ne (by omega)
    have yx33 := congrArg Int32.toInt ex32
    have ex34 : g12 0 13 = g10 0 13 := by rw [hg12]; exact dU_ne (by omega)
    have yx35 := congrArg Int32.toInt ex34
    have yx36 : (g12 0 6).toInt = 0 := by rw [hg12, dU_eq]; decide
    have bx37 := I_g12.1 0 3 (0) (6) rfl
    refine sf_oI (s_X7_read g12 I_g12 (g12 0 3) (0 : Int32) (by omega)) (fun r13 g14 pg14 => ?_)
    obtain ⟨I_g14, ex38, ex39, ex40, qg14⟩ := pg14
    try simp only at I_g14 ex38 ex39 ex40 qg14
    have yx41 := congrArg Int32.toInt ex38
    have yx42 := congrArg Int32.toInt ex39
    have yx43 := congrArg Int32.toInt ex40
    refine sf_ite (fun c15 => ?_) (fun c16 => ?_)
    · skip
      have bx44 := I_g14.1 0 3 (0) (6) rfl
      try have tx45 : ((g14 0 3) + 1).toInt = (g14 0 3).toInt + 1 := i_add rfl (by decide) (by omega) (by omega)
      refine sf_oH (fun g17 hg17 => ?_)
      have I_g17 : InvM g17 := by rw [hg17]; exact invM_set (l := 0) (u := 6) I_g14 rfl (by omega) (by omega) (by omega)
      have ex46 : g17 0 4 = g14 0 4 := by rw [hg17]; exact dU_ne (by omega)
      have yx47 := congrArg Int32.toInt ex46
      have ex48 : g17 0 13 = g14 0 13 := by rw [hg17]; exact dU_ne (by omega)
      have yx49 := congrArg Int32.toInt ex48
      have yx50 : (g17 0 3).toInt = ((g14 0 3) + 1).toInt := by rw [hg17, dU_eq]
      exact sf_some (⟨I_g17, (ex46.trans (ex39.trans (ex32.trans (ex26.trans eg9_1)))), (ex48.trans (ex40.trans (ex34.trans (ex28.trans eg9_2)))), trivial⟩)
    · skip
      exact sf_some (⟨I_g14, (ex39.trans (ex32.trans (ex26.trans eg9_1))), (ex40.trans (ex34.trans (ex28.trans eg9_2))), trivial⟩)
theorem s_X7_force (h : dH) (I_h : InvM h) (v1 : Int32)  : Sf (f_X7_force v1 h) (fun o => InvM o.2 ∧ o.2 0 3 = h 0 3 ∧ o.2 0 13 = h 0 13 ∧ True) := by
  unfold f_X7_force
  have u_v1 := Int32.toInt_lt v1
  have w_v1 := Int32.le_toInt v1
  have tx1 : v1.toInt64.toInt = v1.toInt := l_i2l
  have tx2 : (0 : Int64).toInt = 0 := by decide
  have bx3 := I_h.1 0 3 (0) (6) rfl
  try have tx4 : ((h 0 3) - 1).toInt = (h 0 3).toInt - 1 := i_sub rfl (by decide) (by omega) (by omega)
  have tx5 : ((h 0 3) - 1).toInt64.toInt = ((h 0 3) - 1).toInt := l_i2l
  refine sf_oP (s_X7_in h I_h (v1.toInt64) 0 (((h 0 3) - 1).toInt64)) (fun r1 pr1 => ?_)
  refine sf_ite (fun c2 => ?_) (fun c3 => ?_)
  · skip
    exact sf_some (⟨I_h, rfl, rfl, trivial⟩)
  · skip
    refine sf_oH (fun g4 hg4 => ?_)
    have I_g4 : InvM g4 := by rw [hg4]; exact invM_set (l := 0) (u := 5) I_h rfl (by omega) (by omega) (by omega)
    have ex6 : g4 0 3 = h 0 3 := by rw [hg4]; exact dU_ne (by omega)
    have yx7 := congrArg Int32.toInt ex6
    have ex8 : g4 0 13 = h 0 13 := by rw [hg4]; exact dU_ne (by omega)
    have yx9 := congrArg Int32.toInt ex8
    have yx10 : (g4 0 4).toInt = v1.toInt := by rw [hg4, dU_eq]
    exact sf_some (⟨I_g4, ex6, ex8, trivial⟩)
theorem s_X7_meetsOf (h : dH) (I_h : InvM h) (v1 : Int32) (v2 : Int32) (q0 : 0 ≤ v1.toInt ∧ v1.toInt ≤ 7) (q1 : 0 ≤ v2.toInt ∧ v2.toInt ≤ 7) : Sf (f_X7_meetsOf v1 v2 h) (fun o => InvM o.2 ∧ o.2 0 3 = h 0 3 ∧ o.2 0 4 = h 0 4 ∧ o.2 0 13 = h 0 13 ∧ True) := by
  unfold f_X7_meetsOf
  have u_v1 := Int32.toInt_lt v1
  have w_v1 := Int32.le_toInt v1
  have u_v2 := Int32.toInt_lt v2
  have w_v2 := Int32.le_toInt v2
  refine sf_guard (by omega) (fun c1 => ?_)
  have tx1 : (0 : Int32).toInt = 0 := by decide
  refine sf_oI (s_X7_says h I_h (0 : Int32) v1 v2 (by omega) (by omega)) (fun r2 g3 pg3 => ?_)
  obtain ⟨I_g3, ex2, ex3, ex4, qg3⟩ := pg3
  try simp only at I_g3 ex2 ex3 ex4 qg3
  have yx5 := congrArg Int32.toInt ex2
  have yx6 := congrArg Int32.toInt ex3
  have yx7 := congrArg Int32.toInt ex4
  refine sf_ite (fun c4 => ?_) (fun c5 => ?_)
  · skip
    exact sf_some (⟨I_g3, ex2, ex3, ex4, trivial⟩)
  · skip
    refine sf_ite (fun c6 => ?_) (fun c7 => ?_)
    · skip
      refine sf_guard (by omega) (fun c8 => ?_)
      exact sf_some (⟨I_g3, ex2, ex3, ex4, trivial⟩)
    · skip
      refine sf_ite (fun c9 => ?_) (fun c10 => ?_)
      · skip
        exact sf_some (⟨I_g3, ex2, ex3, ex4, trivial⟩)
      · skip
        refine sf_ite (fun c11 => ?_) (fun c12 => ?_)
        · skip
          refine sf_oP (s_X7_apart g3 I_g3 v1 v2) (fun r13 pr13 => ?_)
          refine sf_ite (fun c14 => ?_) (fun c15 => ?_)
          · skip
            exact sf_some (⟨I_g3, ex2, ex3, ex4, trivial⟩)
          · skip
            exact sf_some (⟨I_g3, ex2, ex3, ex4, trivial⟩)
        · skip
          refine sf_ite (fun c16 => ?_) (fun c17 => ?_)
          · skip
            exact sf_some (⟨I_g3, ex2, ex3, ex4, trivial⟩)
          · skip
            exact sf_some (⟨I_g3, ex2, ex3, ex4, trivial⟩)
theorem s_X7_fadesOf (h : dH) (I_h : InvM h) (v1 : Int32) (v2 : Int32) (q0 : 0 ≤ v1.toInt ∧ v1.toInt ≤ 7) (q1 : 0 ≤ v2.toInt ∧ v2.toInt ≤ 7) : Sf (f_X7_fadesOf v1 v2 h) (fun o => InvM o.2 ∧ o.2 0 3 = h 0 3 ∧ o.2 0 4 = h 0 4 ∧ o.2 0 13 = h 0 13 ∧ True) := by
  unfold f_X7_fadesOf
  have u_v1 := Int32.toInt_lt v1
  have w_v1 := Int32.le_toInt v1
  have u_v2 := Int32.toInt_lt v2
  have w_v2 := Int32.le_toInt v2
  refine sf_guard (by omega) (fun c1 => ?_)
  have tx1 : (1 : Int32).toInt = 1 := by decide
  refine sf_oI (s_X7_says h I_h (1 : Int32) v1 v2 (by omega) (by omega)) (fun r2 g3 pg3 => ?_)
  obtain ⟨I_g3, ex2, ex3, ex4, qg3⟩ := pg3
  try simp only at I_g3 ex2 ex3 ex4 qg3
  have yx5 := congrArg Int32.toInt ex2
  have yx6 := congrArg Int32.toInt ex3
  have yx7 := congrArg Int32.toInt ex4
  refine sf_ite (fun c4 => ?_) (fun c5 => ?_)
  · skip
    exact sf_some (⟨I_g3, ex2, ex3, ex4, trivial⟩)
  · skip
    refine sf_ite (fun c6 => ?_) (fun c7 => ?_)
    · skip
      exact sf_some (⟨I_g3, ex2, ex3, ex4, trivial⟩)
    · skip
      refine sf_ite (fun c8 => ?_) (fun c9 => ?_)
      · skip
        exact sf_some (⟨I_g3, ex2, ex3, ex4, trivial⟩)
      · skip
        refine sf_ite (fun c10 => ?_) (fun c11 => ?_)
        · skip
          try have tx8 := drem_ok (x := (g3 0 7)) (y := (2 : Int32)) (by omega) (by omega)
          refine sf_ite (fun c12 => ?_) (fun c13 => ?_)
          · skip
            exact sf_some (⟨I_g3, ex2, ex3, ex4, trivial⟩)
          · skip
            exact sf_some (⟨I_g3, ex2, ex3, ex4, trivial⟩)
        · skip
          exact sf_some (⟨I_g3, ex2, ex3, ex4, trivial⟩)
theorem s_X7_asks (h : dH) (I_h : InvM h) (v1 : Int32) (v2 : Int32) (v3 : Int32)  : Sf (f_X7_asks v1 v2 v3 h) (fun o => InvM o.2 ∧ o.2 0 3 = h 0 3 ∧ o.2 0 4 = h 0 4 ∧ o.2 0 13 = h 0 13 ∧ True) := by
  unfold f_X7_asks
  have u_v1 := Int32.toInt_lt v1
  have w_v1 := Int32.le_toInt v1
  have u_v2 := Int32.toInt_lt v2
  have w_v2 := Int32.le_toInt v2
  have u_v3 := Int32.toInt_lt v3
  have w_v3 := Int32.le_toInt v3
  refine sf_oP (s_X7_areTwo h I_h v1 v2) (fun r1 pr1 => ?_)
  refine sf_ite (fun c2 => ?_) (fun c3 => ?_)
  · skip
    exact sf_some (⟨I_h, rfl, rfl, rfl, trivial⟩)
  · skip
    have tx1 : v3.toInt64.toInt = v3.toInt := l_i2l
    have tx2 : (0 : Int64).toInt = 0 := by decide
    have tx3 : (1 : Int64).toInt = 1 := by decide
    refine sf_oP (s_X7_in h I_h (v3.toInt64) 0 1) (fun r4 pr4 => ?_)
    refine sf_ite (fun c5 => ?_) (fun c6 => ?_)
    · skip
      exact sf_some (⟨I_h, rfl, rfl, rfl, trivial⟩)
    · skip
      refine sf_ite (fun c7 => ?_) (fun c8 => ?_)
      · skip
        refine sf_oI (s_X7_meetsOf h I_h v1 v2 (by omega) (by omega)) (fun r9 g10 pg10 => ?_)
        obtain ⟨I_g10, ex4, ex5, ex6, qg10⟩ := pg10
        try simp only at I_g10 ex4 ex5 ex6 qg10
        have yx7 := congrArg Int32.toInt ex4
        have yx8 := congrArg Int32.toInt ex5
        have yx9 := congrArg Int32.toInt ex6
        exact sf_some (⟨I_g10, ex4, ex5, ex6, trivial⟩)
      · skip
        refine sf_oI (s_X7_fadesOf h I_h v1 v2 (by omega) (by omega)) (fun r11 g12 pg12 => ?_)
        obtain ⟨I_g12, ex10, ex11, ex12, qg12⟩ := pg12
        try simp only at I_g12 ex10 ex11 ex12 qg12
        have yx13 := congrArg Int32.toInt ex10
        have yx14 := congrArg Int32.toInt ex11
        have yx15 := congrArg Int32.toInt ex12
        exact sf_some (⟨I_g12, ex10, ex11, ex12, trivial⟩)
theorem sl_X7_feasts_14 (v1 : Int32)  (h0 : dH) (I_h0 : InvM h0) (r_v1 : 0 ≤ v1.toInt ∧ v1.toInt ≤ 7) (k : dH → Option (dH)) (Q : dH → Prop) (hk : ∀  (g : dH) (Ig : InvM g) (e0 : g 0 3 = h0 0 3) (e1 : g 0 4 = h0 0 4) (e2 : g 0 13 = h0 0 13), True → Sf (k  g) Q)  : ∀ (n : Nat) (v2 : Int32) (h : dH) (I_h : InvM h) (e0 : h 0 3 = h0 0 3) (e1 : h 0 4 = h0 0 4) (e2 : h 0 13 = h0 0 13), 0 ≤ v2.toInt ∧ v2.toInt ≤ 8 → 8 - v2.toInt < (n : Int) → Sf (l_X7_feasts_14 v1 k n v2 h) Q
  | 0, v2, h, I_h, e0, e1, e2, hi, hm => by omega
  | n + 1, v2, h, I_h, e0, e1, e2, hi, hm => by
    rw [l_X7_feasts_14]
    have yx5 := congrArg Int32.toInt e0
    have yx6 := congrArg Int32.toInt e1
    have yx7 := congrArg Int32.toInt e2
    have bx8 := I_h.1 0 13 (0) (8) rfl
    refine sf_ite (fun c3 => ?_) (fun c4 => ?_)
    · skip
      refine sf_guard (by omega) (fun c5 => ?_)
      refine sf_ite (fun c6 => ?_) (fun c7 => ?_)
      · skip
        try have tx9 : (v2 + 1).toInt = v2.toInt + 1 := i_add rfl (by decide) (by omega) (by omega)
        exact sl_X7_feasts_14  v1  h0 I_h0 r_v1 k Q hk n (v2 + 1) h I_h e0 e1 e2 (by first | trivial | omega) (by omega)
      · skip
        refine sf_guard (by omega) (fun c8 => ?_)
        refine sf_guard (by omega) (fun c9 => ?_)
        refine sf_ite (fun c10 => ?_) (fun c11 => ?_)
        · skip
          refine sf_oI (s_X7_meetsOf h I_h v1 v2 (by omega) (by omega)) (fun r12 g13 pg13 => ?_)
          obtain ⟨I_g13, ex10, ex11, ex12, qg13⟩ := pg13
          try simp only at I_g13 ex10 ex11 ex12 qg13
          have yx13 := congrArg Int32.toInt ex10
          have yx14 := congrArg Int32.toInt ex11
          have yx15 := congrArg Int32.toInt ex12
          refine sf_oI (s_X7_meetsOf g13 I_g13 v2 v1 (by omega) (by omega)) (fun r14 g15 pg15 => ?_)
          obtain ⟨I_g15, ex16, ex17, ex18, qg15⟩ := pg15
          try simp only at I_g15 ex16 ex17 ex18 qg15
          have yx19 := congrArg Int32.toInt ex16
          have yx20 := congrArg Int32.toInt ex17
          have yx21 := congrArg Int32.toInt ex18
          refine sf_oP (s_X7_strengthOf g15 I_g15 v1 v2 (by omega) (by omega)) (fun r16 pr16 => ?_)
          try have tx22 : (r12 + r14).toInt = r12.toInt + r14.toInt := i_add rfl rfl (by omega) (by omega)
          try have tx23 : (r16 + (r12 + r14)).toInt = r16.toInt + (r12 + r14).toInt := i_add rfl rfl (by omega) (by omega)
          refine sf_oV (s_X7_binds g15 I_g15 v1 v2 (r16 + (r12 + r14)) (by omega) (by omega)) (fun g17 pg17 => ?_)
          obtain ⟨I_g17, ex24, ex25, ex26, ex27, ex28, qg17⟩ := pg17
          try simp only at I_g17 ex24 ex25 ex26 ex27 ex28 qg17
          have yx29 := congrArg Int32.toInt ex24
          have yx30 := congrArg Int32.toInt ex25
          have yx31 := congrArg Int32.toInt ex26
          try have tx32 : (v2 + 1).toInt = v2.toInt + 1 := i_add rfl (by decide) (by omega) (by omega)
          exact sl_X7_feasts_14  v1  h0 I_h0 r_v1 k Q hk n (v2 + 1) g17 I_g17 (ex24.trans (ex16.trans (ex10.trans e0))) (ex25.trans (ex17.trans (ex11.trans e1))) (ex26.trans (ex18.trans (ex12.trans e2))) (by first | trivial | omega) (by omega)
        · skip
          try have tx33 : (v2 + 1).toInt = v2.toInt + 1 := i_add rfl (by decide) (by omega) (by omega)
          exact sl_X7_feasts_14  v1  h0 I_h0 r_v1 k Q hk n (v2 + 1) h I_h e0 e1 e2 (by first | trivial | omega) (by omega)
    · skip
      exact hk  h I_h e0 e1 e2 (by first | trivial | omega)
theorem sl_X7_feasts_2   (h0 : dH) (I_h0 : InvM h0)  (k : dH → Option (dH)) (Q : dH → Prop) (hk : ∀  (g : dH) (Ig : InvM g) (e0 : g 0 3 = h0 0 3) (e1 : g 0 4 = h0 0 4) (e2 : g 0 13 = h0 0 13), True → Sf (k  g) Q)  : ∀ (n : Nat) (v1 : Int32) (h : dH) (I_h : InvM h) (e0 : h 0 3 = h0 0 3) (e1 : h 0 4 = h0 0 4) (e2 : h 0 13 = h0 0 13), 0 ≤ v1.toInt ∧ v1.toInt ≤ 8 → 8 - v1.toInt < (n : Int) → Sf (l_X7_feasts_2  k n v1 h) Q
  | 0, v1, h, I_h, e0, e1, e2, hi, hm => by omega
  | n + 1, v1, h, I_h, e0, e1, e2, hi, hm => by
    rw [l_X7_feasts_2]
    have yx1 := congrArg Int32.toInt e0
    have yx2 := congrArg Int32.toInt e1
    have yx3 := congrArg Int32.toInt e2
    have bx4 := I_h.1 0 13 (0) (8) rfl
    refine sf_ite (fun c1 => ?_) (fun c2 => ?_)
    · skip
      try have tx34 : (v1 + 1).toInt = v1.toInt + 1 := i_add rfl (by decide) (by omega) (by omega)
      refine sl_X7_feasts_14 v1  h I_h (by omega) _ _ (fun g20 I_g20 eg20_0 eg20_1 eg20_2 px35 => ?_)  fuel0 (v1 + 1) h I_h rfl rfl rfl (by first | trivial | omega) (by have := fuel0_eq; omega)
      have yx36 := congrArg Int32.toInt eg20_0
      have yx37 := congrArg Int32.toInt eg20_1
      have yx38 := congrArg Int32.toInt eg20_2
      exact sl_X7_feasts_2    h0 I_h0  k Q hk n (v1 + 1) g20 I_g20 (eg20_0.trans e0) (eg20_1.trans e1) (eg20_2.trans e2) (by first | trivial | omega) (by omega)
    · skip
      exact hk  h I_h e0 e1 e2 (by first | trivial | omega)
theorem s_X7_feasts (h : dH) (I_h : InvM h)   : Sf (f_X7_feasts  h) (fun o => InvM o ∧ o 0 3 = h 0 3 ∧ o 0 4 = h 0 4 ∧ o 0 13 = h 0 13 ∧ True) := by
  unfold f_X7_feasts
  have tx39 : (0 : Int32).toInt = 0 := by decide
  refine sl_X7_feasts_2   h I_h  _ _ (fun g24 I_g24 eg24_0 eg24_1 eg24_2 px40 => ?_)  fuel0 (0 : Int32) h I_h rfl rfl rfl (by first | trivial | omega) (by have := fuel0_eq; omega)
  have yx41 := congrArg Int32.toInt eg24_0
  have yx42 := congrArg Int32.toInt eg24_1
  have yx43 := congrArg Int32.toInt eg24_2
  exact sf_some (⟨I_g24, eg24_0, eg24_1, eg24_2, trivial⟩)
theorem sl_X7_fades_14 (v1 : Int32)  (h0 : dH) (I_h0 : InvM h0) (r_v1 : 0 ≤ v1.toInt ∧ v1.toInt ≤ 7) (k : dH → Option (dH)) (Q : dH → Prop) (hk : ∀  (g : dH) (Ig : InvM g) (e0 : g 0 3 = h0 0 3) (e1 : g 0 4 = h0 0 4) (e2 : g 0 13 = h0 0 13), True → Sf (k  g) Q)  : ∀ (n : Nat) (v2 : Int32) (h : dH) (I_h : InvM h) (e0 : h 0 3 = h0 0 3) (e1 : h 0 4 = h0 0 4) (e2 : h 0 13 = h0 0 13), 0 ≤ v2.toInt ∧ v2.toInt ≤ 8 → 8 - v2.toInt < (n : Int) → Sf (l_X7_fades_14 v1 k n v2 h) Q
  | 0, v2, h, I_h, e0, e1, e2, hi, hm => by omega
  | n + 1, v2, h, I_h, e0, e1, e2, hi, hm => by
    rw [l_X7_fades_14]
    have yx5 := congrArg Int32.toInt e0
    have yx6 := congrArg Int32.toInt e1
    have yx7 := congrArg Int32.toInt e2
    have bx8 := I_h.1 0 13 (0) (8) rfl
    refine sf_ite (fun c3 => ?_) (fun c4 => ?_)
    · skip
      refine sf_oI (s_X7_fadesOf h I_h v1 v2 (by omega) (by omega)) (fun r5 g6 pg6 => ?_)
      obtain ⟨I_g6, ex9, ex10, ex11, qg6⟩ := pg6
      try simp only at I_g6 ex9 ex10 ex11 qg6
      have yx12 := congrArg Int32.toInt ex9
      have yx13 := congrArg Int32.toInt ex10
      have yx14 := congrArg Int32.toInt ex11
      refine sf_oI (s_X7_fadesOf g6 I_g6 v2 v1 (by omega) (by omega)) (fun r7 g8 pg8 => ?_)
      obtain ⟨I_g8, ex15, ex16, ex17, qg8⟩ := pg8
      try simp only at I_g8 ex15 ex16 ex17 qg8
      have yx18 := congrArg Int32.toInt ex15
      have yx19 := congrArg Int32.toInt ex16
      have yx20 := congrArg Int32.toInt ex17
      refine sf_oP (s_X7_strengthOf g8 I_g8 v1 v2 (by omega) (by omega)) (fun r9 pr9 => ?_)
      try have tx21 : (r5 + r7).toInt = r5.toInt + r7.toInt := i_add rfl rfl (by omega) (by omega)
      try have tx22 : (r9 - (r5 + r7)).toInt = r9.toInt - (r5 + r7).toInt := i_sub rfl rfl (by omega) (by omega)
      refine sf_oV (s_X7_binds g8 I_g8 v1 v2 (r9 - (r5 + r7)) (by omega) (by omega)) (fun g10 pg10 => ?_)
      obtain ⟨I_g10, ex23, ex24, ex25, ex26, ex27, qg10⟩ := pg10
      try simp only at I_g10 ex23 ex24 ex25 ex26 ex27 qg10
      have yx28 := congrArg Int32.toInt ex23
      have yx29 := congrArg Int32.toInt ex24
      have yx30 := congrArg Int32.toInt ex25
      try have tx31 : (v2 + 1).toInt = v2.toInt + 1 := i_add rfl (by decide) (by omega) (by omega)
      exact sl_X7_fades_14  v1  h0 I_h0 r_v1 k Q hk n (v2 + 1) g10 I_g10 (ex23.trans (ex15.trans (ex9.trans e0))) (ex24.trans (ex16.trans (ex10.trans e1))) (ex25.trans (ex17.trans (ex11.trans e2))) (by first | trivial | omega) (by omega)
    · skip
      exact hk  h I_h e0 e1 e2 (by first | trivial | omega)
theorem sl_X7_fades_2   (h0 : dH) (I_h0 : InvM h0)  (k : dH → Option (dH)) (Q : dH → Prop) (hk : ∀  (g : dH) (Ig : InvM g) (e0 : g 0 3 = h0 0 3) (e1 : g 0 4 = h0 0 4) (e2 : g 0 13 = h0 0 13), True → Sf (k  g) Q)  : ∀ (n : Nat) (v1 : Int32) (h : dH) (I_h : InvM h) (e0 : h 0 3 = h0 0 3) (e1 : h 0 4 = h0 0 4) (e2 : h 0 13 = h0 0 13), 0 ≤ v1.toInt ∧ v1.toInt ≤ 8 → 8 - v1.toInt < (n : Int) → Sf (l_X7_fades_2  k n v1 h) Q
  | 0, v1, h, I_h, e0, e1, e2, hi, hm => by omega
  | n + 1, v1, h, I_h, e0, e1, e2, hi, hm => by
    rw [l_X7_fades_2]
    have yx1 := congrArg Int32.toInt e0
    have yx2 := congrArg Int32.toInt e1
    have yx3 := congrArg Int32.toInt e2
    have bx4 := I_h.1 0 13 (0) (8) rfl
    refine sf_ite (fun c1 => ?_) (fun c2 => ?_)
    · skip
      try have tx32 : (v1 + 1).toInt = v1.toInt + 1 := i_add rfl (by decide) (by omega) (by omega)
      refine sl_X7_fades_14 v1  h I_h (by omega) _ _ (fun g13 I_g13 eg13_0 eg13_1 eg13_2 px33 => ?_)  fuel0 (v1 + 1) h I_h rfl rfl rfl (by first | trivial | omega) (by have := fuel0_eq; omega)
      have yx34 := congrArg Int32.toInt eg13_0
      have yx35 := congrArg Int32.toInt eg13_1
      have yx36 := congrArg Int32.toInt eg13_2
      exact sl_X7_fades_2    h0 I_h0  k Q hk n (v1 + 1) g13 I_g13 (eg13_0.trans e0) (eg13_1.trans e1) (eg13_2.trans e2) (by first | trivial | omega) (by omega)
    · skip
      exact hk  h I_h e0 e1 e2 (by first | trivial | omega)
theorem s_X7_fades (h : dH) (I_h : InvM h)   : Sf (f_X7_fades  h) (fun o => InvM o ∧ o 0 3 = h 0 3 ∧ o 0 4 = h 0 4 ∧ o 0 13 = h 0 13 ∧ True) := by
  unfold f_X7_fades
  have tx37 : (0 : Int32).toInt = 0 := by decide
  refine sl_X7_fades_2   h I_h  _ _ (fun g17 I_g17 eg17_0 eg17_1 eg17_2 px38 => ?_)  fuel0 (0 : Int32) h I_h rfl rfl rfl (by first | trivial | omega) (by have := fuel0_eq; omega)
  have yx39 := congrArg Int32.toInt eg17_0
  have yx40 := congrArg Int32.toInt eg17_1
  have yx41 := congrArg Int32.toInt eg17_2
  try have tx42 : ((g17 0 7) + 1).toInt = (g17 0 7).toInt + 1 := i_add rfl (by decide) (by omega) (by omega)
  refine sf_oH (fun g18 hg18 => ?_)
  have I_g18 : InvM g18 := by rw [hg18]; exact invM_free I_g17 rfl (by omega) (by omega)
  have ex43 : g18 0 3 = g17 0 3 := by rw [hg18]; exact dU_ne (by omega)
  have yx44 := congrArg Int32.toInt ex43
  have ex45 : g18 0 4 = g17 0 4 := by rw [hg18]; exact dU_ne (by omega)
  have yx46 := congrArg Int32.toInt ex45
  have ex47 : g18 0 13 = g17 0 13 := by rw [hg18]; exact dU_ne (by omega)
  have yx48 := congrArg Int32.toInt ex47
  have yx49 : (g18 0 7).toInt = ((g17 0 7) + 1).toInt := by rw [hg18, dU_eq]
  exact sf_some (⟨I_g18, (ex43.trans eg17_0), (ex45.trans eg17_1), (ex47.trans eg17_2), trivial⟩)
theorem sl_X7_friends_16 (v2 : Int32)  (h : dH) (I_h : InvM h) (r_v2 : 0 ≤ v2.toInt ∧ v2.toInt ≤ 7) (k : Int32 → Option (Int32)) (Q : Int32 → Prop) (hk : ∀ (v1 : Int32), True → Sf (k v1) Q)  : ∀ (n : Nat) (v1 : Int32) (v3 : Int32), 0 ≤ v3.toInt ∧ v3.toInt ≤ 8 → 8 - v3.toInt < (n : Int) → Sf (l_X7_friends_16 v2 h k n v1 v3) Q
  | 0, v1, v3, hi, hm => by omega
  | n + 1, v1, v3, hi, hm => by
    rw [l_X7_friends_16]
    have bx2 := I_h.1 0 13 (0) (8) rfl
    refine sf_ite (fun c3 => ?_) (fun c4 => ?_)
    · skip
      refine sf_oP (s_X7_knows h I_h v2 v3 (by omega) (by omega)) (fun r5 pr5 => ?_)
      refine sf_ite (fun c6 => ?_) (fun c7 => ?_)
      · skip
        try have tx3 : (v1 + 0).toInt = v1.toInt + 0 := i_add rfl (by decide) (by omega) (by omega)
        try have tx4 : (v3 + 1).toInt = v3.toInt + 1 := i_add rfl (by decide) (by omega) (by omega)
        exact sl_X7_friends_16  v2  h I_h r_v2 k Q hk n (v1 + 0) (v3 + 1) (by first | trivial | omega) (by omega)
      · skip
        try have tx5 : (v1 + 1).toInt = v1.toInt + 1 := i_add rfl (by decide) (by omega) (by omega)
        try have tx6 : (v3 + 1).toInt = v3.toInt + 1 := i_add rfl (by decide) (by omega) (by omega)
        exact sl_X7_friends_16  v2  h I_h r_v2 k Q hk n (v1 + 1) (v3 + 1) (by first | trivial | omega) (by omega)
    · skip
      exact hk v1 (by first | trivial | omega)
theorem sl_X7_friends_4   (h : dH) (I_h : InvM h)  (k : Int32 → Option (Int32)) (Q : Int32 → Prop) (hk : ∀ (v1 : Int32), True → Sf (k v1) Q)  : ∀ (n : Nat) (v1 : Int32) (v2 : Int32), 0 ≤ v2.toInt ∧ v2.toInt ≤ 8 → 8 - v2.toInt < (n : Int) → Sf (l_X7_friends_4  h k n v1 v2) Q
  | 0, v1, v2, hi, hm => by omega
  | n + 1, v1, v2, hi, hm => by
    rw [l_X7_friends_4]
    have bx1 := I_h.1 0 13 (0) (8) rfl
    refine sf_ite (fun c1 => ?_) (fun c2 => ?_)
    · skip
      try have tx7 : (v2 + 1).toInt = v2.toInt + 1 := i_add rfl (by decide) (by omega) (by omega)
      refine sl_X7_friends_16 v2  h I_h (by omega) _ _ (fun v1_8 px8 => ?_)  fuel0 v1 (v2 + 1)  (by first | trivial | omega) (by have := fuel0_eq; omega)
      exact sl_X7_friends_4    h I_h  k Q hk n v1_8 (v2 + 1) (by first | trivial | omega) (by omega)
    · skip
      exact hk v1 (by first | trivial | omega)
theorem s_X7_friends (h : dH) (I_h : InvM h)   : Sf (f_X7_friends  h) (fun r => True) := by
  unfold f_X7_friends
  have tx9 : (0 : Int32).toInt = 0 := by decide
  refine sl_X7_friends_4   h I_h  _ _ (fun v1_10 px10 => ?_)  fuel0 (0 : Int32) (0 : Int32)  (by first | trivial | omega) (by have := fuel0_eq; omega)
  exact sf_some (trivial)
theorem s_X7_feast (h : dH) (I_h : InvM h)   : Sf (f_X7_feast  h) (fun o => InvM o.2 ∧ o.2 0 3 = h 0 3 ∧ o.2 0 4 = h 0 4 ∧ o.2 0 13 = h 0 13 ∧ True) := by
  unfold f_X7_feast
  refine sf_oV (s_X7_feasts h I_h ) (fun g1 pg1 => ?_)
  obtain ⟨I_g1, ex1, ex2, ex3, qg1⟩ := pg1
  try simp only at I_g1 ex1 ex2 ex3 qg1
  have yx4 := congrArg Int32.toInt ex1
  have yx5 := congrArg Int32.toInt ex2
  have yx6 := congrArg Int32.toInt ex3
  refine sf_oP (s_X7_friends g1 I_g1 ) (fun r2 pr2 => ?_)
  exact sf_some (⟨I_g1, ex1, ex2, ex3, trivial⟩)
theorem s_X7_year (h : dH) (I_h : InvM h)   : Sf (f_X7_year  h) (fun o => InvM o.2 ∧ o.2 0 3 = h 0 3 ∧ o.2 0 4 = h 0 4 ∧ o.2 0 13 = h 0 13 ∧ True) := by
  unfold f_X7_year
  refine sf_ite (fun c1 => ?_) (fun c2 => ?_)
  · skip
    exact sf_some (⟨I_h, rfl, rfl, rfl, trivial⟩)
  · skip
    refine sf_oV (s_X7_fades h I_h ) (fun g3 pg3 => ?_)
    obtain ⟨I_g3, ex1, ex2, ex3, qg3⟩ := pg3
    try simp only at I_g3 ex1 ex2 ex3 qg3
    have yx4 := congrArg Int32.toInt ex1
    have yx5 := congrArg Int32.toInt ex2
    have yx6 := congrArg Int32.toInt ex3
    refine sf_oP (s_X7_friends g3 I_g3 ) (fun r4 pr4 => ?_)
    exact sf_some (⟨I_g3, ex1, ex2, ex3, trivial⟩)
end
