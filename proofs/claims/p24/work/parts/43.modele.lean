/-! X7_says, X7_soundsOf, X7_told, X7_set, X7_binds, X7_house, X7_areTwo, X7_bind, X7_feed, X7_text, X7_force, X7_meetsOf, X7_fadesOf (by program) -/
noncomputable section
def f_X7_says (v1 : Int32) (v2 : Int32) (v3 : Int32) (h : dH) : Option (Int32 × dH) := if v3.toInt = (-1) then (oH (dU h 0 14 0) (fun g3 => if 0 ≤ v2.toInt ∧ v2.toInt < 8 then (oH (dU g3 0 15 (g3 5 (v2.toInt.toNat))) (fun g5 => if v3.toInt = (-1) then (oH (dU g5 0 16 0) (fun g8 => oP (f_X7_seatsOf v2 g8) (fun r9 => oH (dU g8 0 17 r9) (fun g10 => oH (dU g10 0 18 (g10 0 7)) (fun g11 => if v3.toInt = (-1) then (oH (dU g11 0 19 0) (fun g14 => oI (f_X7_read (g14 0 4) v1 g14) (fun r15 g16 => oP (f_X7_within r15 0 60) (fun r17 => some (r17, g16))))) else (oP (f_X7_apart v2 v3) (fun r18 => oH (dU g11 0 19 r18) (fun g19 => oI (f_X7_read (g19 0 4) v1 g19) (fun r20 g21 => oP (f_X7_within r20 0 60) (fun r22 => some (r22, g21))))))))))) else (if 0 ≤ v3.toInt ∧ v3.toInt < 8 then (oH (dU g5 0 16 (g5 5 (v3.toInt.toNat))) (fun g24 => oP (f_X7_seatsOf v2 g24) (fun r25 => oH (dU g24 0 17 r25) (fun g26 => oH (dU g26 0 18 (g26 0 7)) (fun g27 => if v3.toInt = (-1) then (oH (dU g27 0 19 0) (fun g30 => oI (f_X7_read (g30 0 4) v1 g30) (fun r31 g32 => oP (f_X7_within r31 0 60) (fun r33 => some (r33, g32))))) else (oP (f_X7_apart v2 v3) (fun r34 => oH (dU g27 0 19 r34) (fun g35 => oI (f_X7_read (g35 0 4) v1 g35) (fun r36 g37 => oP (f_X7_within r36 0 60) (fun r38 => some (r38, g37))))))))))) else none))) else none)) else (oP (f_X7_strengthOf v2 v3 h) (fun r39 => oH (dU h 0 14 r39) (fun g40 => if 0 ≤ v2.toInt ∧ v2.toInt < 8 then (oH (dU g40 0 15 (g40 5 (v2.toInt.toNat))) (fun g42 => if v3.toInt = (-1) then (oH (dU g42 0 16 0) (fun g45 => oP (f_X7_seatsOf v2 g45) (fun r46 => oH (dU g45 0 17 r46) (fun g47 => oH (dU g47 0 18 (g47 0 7)) (fun g48 => if v3.toInt = (-1) then (oH (dU g48 0 19 0) (fun g51 => oI (f_X7_read (g51 0 4) v1 g51) (fun r52 g53 => oP (f_X7_within r52 0 60) (fun r54 => some (r54, g53))))) else (oP (f_X7_apart v2 v3) (fun r55 => oH (dU g48 0 19 r55) (fun g56 => oI (f_X7_read (g56 0 4) v1 g56) (fun r57 g58 => oP (f_X7_within r57 0 60) (fun r59 => some (r59, g58))))))))))) else (if 0 ≤ v3.toInt ∧ v3.toInt < 8 then (oH (dU g42 0 16 (g42 5 (v3.toInt.toNat))) (fun g61 => oP (f_X7_seatsOf v2 g61) (fun r62 => oH (dU g61 0 17 r62) (fun g63 => oH (dU g63 0 18 (g63 0 7)) (fun g64 => if v3.toInt = (-1) then (oH (dU g64 0 19 0) (fun g67 => oI (f_X7_read (g67 0 4) v1 g67) (fun r68 g69 => oP (f_X7_within r68 0 60) (fun r70 => some (r70, g69))))) else (oP (f_X7_apart v2 v3) (fun r71 => oH (dU g64 0 19 r71) (fun g72 => oI (f_X7_read (g72 0 4) v1 g72) (fun r73 g74 => oP (f_X7_within r73 0 60) (fun r75 => some (r75, g74))))))))))) else none))) else none)))
theorem m_X7_says {d : Nat} (hd : 43 ≤ d) (v1 : Int32) (v2 : Int32) (v3 : Int32) (h : dH) : dX shM d 182 [.ref 0, .int v1, .int v2, .int v3] dI (f_X7_says v1 v2 v3 h) h := by
  obtain ⟨e, rfl⟩ : ∃ e, d = e + 1 := ⟨d - 1, by omega⟩
  have hd : 42 ≤ e := by omega
  refine dX_of (mj := mj182) (lo := [some (.ref 0), some (.int v1), some (.int v2), some (.int v3)]) rfl (Nat.le_of_ble_eq_true rfl) rfl ?_
  unfold f_X7_says
  refine y_aload_n (q := 1) rfl rfl rfl ?_
  refine y_iload_n (q := 2) rfl rfl rfl ?_
  refine y_iconst (x := (-1)) (q := 3) rfl (by decide) rfl ?_
  refine y_ne (q := 10) (q' := 6) rfl rfl (by decide) rfl rfl (fun c1 => ?_) (fun c2 => ?_)
  · skip
    refine y_iconst (x := 0) (q := 7) rfl (by decide) rfl ?_
    refine y_goto (q := 16) rfl rfl ?_
    refine y_putI (q := 19) rfl rfl (by decide) atM0 rfl rfl rfl rfl (fun g3 => ?_)
    refine y_aload_n (q := 20) rfl rfl rfl ?_
    refine y_aload_n (q := 21) rfl rfl rfl ?_
    refine y_getR (b := 5) (q := 24) rfl rfl (by decide) atM0 rfl rfl ?_
    refine y_iload_n (q := 25) rfl rfl rfl ?_
    refine y_guard (fun c4 => ?_)
    refine y_iald (n := 8) (N := 8) (X := v2.toInt) (K := v2.toInt.toNat) (q := 26) hbM rfl atM5 rfl rfl c4 rfl rfl ?_
    refine y_putI (q := 29) rfl rfl (by decide) atM0 rfl rfl rfl rfl (fun g5 => ?_)
    refine y_aload_n (q := 30) rfl rfl rfl ?_
    refine y_iload_n (q := 31) rfl rfl rfl ?_
    refine y_iconst (x := (-1)) (q := 32) rfl (by decide) rfl ?_
    refine y_ne (q := 39) (q' := 35) rfl rfl (by decide) rfl rfl (fun c6 => ?_) (fun c7 => ?_)
    · skip
      refine y_iconst (x := 0) (q := 36) rfl (by decide) rfl ?_
      refine y_goto (q := 45) rfl rfl ?_
      refine y_putI (q := 48) rfl rfl (by decide) atM0 rfl rfl rfl rfl (fun g8 => ?_)
      refine y_aload_n (q := 49) rfl rfl rfl ?_
      refine y_aload_n (q := 50) rfl rfl rfl ?_
      refine y_iload_n (q := 51) rfl rfl rfl ?_
      refine y_callP (I := .invokevirtual 148) (idx := 148) (KD := 1) (J := 142) (mj := mj132) (as := [.ref 0, .int v2]) (r := [.ref 0]) (q := 54) rfl (fun _ _ _ _ _ _ => rfl) rfl (by decide) rfl rfl rfl rfl rfl (Nat.le_of_ble_eq_true rfl) (d_recv atM0 (by decide) (by decide)) rfl (m_X7_seatsOf (Nat.le_trans (by decide) hd) v2 g8) (fun r9 => ?_)
      refine y_putI (q := 57) rfl rfl (by decide) atM0 rfl rfl rfl rfl (fun g10 => ?_)
      refine y_aload_n (q := 58) rfl rfl rfl ?_
      refine y_aload_n (q := 59) rfl rfl rfl ?_
      refine y_getI (q := 62) rfl rfl (by decide) atM0 rfl rfl ?_
      refine y_putI (q := 65) rfl rfl (by decide) atM0 rfl rfl rfl rfl (fun g11 => ?_)
      refine y_aload_n (q := 66) rfl rfl rfl ?_
      refine y_iload_n (q := 67) rfl rfl rfl ?_
      refine y_iconst (x := (-1)) (q := 68) rfl (by decide) rfl ?_
      refine y_ne (q := 75) (q' := 71) rfl rfl (by decide) rfl rfl (fun c12 => ?_) (fun c13 => ?_)
      · skip
        refine y_iconst (x := 0) (q := 72) rfl (by decide) rfl ?_
        refine y_goto (q := 80) rfl rfl ?_
        refine y_putI (q := 83) rfl rfl (by decide) atM0 rfl rfl rfl rfl (fun g14 => ?_)
        refine y_aload_n (q := 84) rfl rfl rfl ?_
        refine y_aload_n (q := 85) rfl rfl rfl ?_
        refine y_getI (q := 88) rfl rfl (by decide) atM0 rfl rfl ?_
        refine y_iload_n (q := 89) rfl rfl rfl ?_
        refine y_callI (I := .invokevirtual 361) (idx := 361) (KD := 1) (J := 189) (mj := mj179) (as := [.ref 0, .int (g14 0 4), .int v1]) (r := []) (q := 92) rfl (fun _ _ _ _ _ _ => rfl) rfl (by decide) rfl rfl rfl rfl rfl (Nat.le_of_ble_eq_true rfl) (d_recv atM0 (by decide) (by decide)) rfl (m_X7_read (Nat.le_trans (by decide) hd) (g14 0 4) v1 g14) (fun r15 g16 => ?_)
        refine y_iconst (x := 0) (q := 93) rfl (by decide) rfl ?_
        refine y_bipush (x := 60) (q := 95) rfl (by decide) rfl ?_
        refine y_callP (I := .invokestatic 127) (idx := 127) (KD := 0) (J := 129) (mj := mj119) (as := [.int r15, .int 0, .int 60]) (r := []) (q := 98) rfl (fun _ _ _ _ _ _ => rfl) rfl (by decide) rfl rfl rfl rfl rfl (Nat.le_of_ble_eq_true rfl) rfl rfl (m_X7_within (Nat.le_trans (by decide) hd) r15 0 60 g16) (fun r17 => ?_)
        exact y_retI rfl (by decide) rfl rfl
      · skip
        refine y_iload_n (q := 76) rfl rfl rfl ?_
        refine y_iload_n (q := 77) rfl rfl rfl ?_
        refine y_callP (I := .invokestatic 364) (idx := 364) (KD := 0) (J := 193) (mj := mj183) (as := [.int v2, .int v3]) (r := [.ref 0]) (q := 80) rfl (fun _ _ _ _ _ _ => rfl) rfl (by decide) rfl rfl rfl rfl rfl (Nat.le_of_ble_eq_true rfl) rfl rfl (m_X7_apart (Nat.le_trans (by decide) hd) v2 v3 g11) (fun r18 => ?_)
        refine y_putI (q := 83) rfl rfl (by decide) atM0 rfl rfl rfl rfl (fun g19 => ?_)
        refine y_aload_n (q := 84) rfl rfl rfl ?_
        refine y_aload_n (q := 85) rfl rfl rfl ?_
        refine y_getI (q := 88) rfl rfl (by decide) atM0 rfl rfl ?_
        refine y_iload_n (q := 89) rfl rfl rfl ?_
        refine y_callI (I := .invokevirtual 361) (idx := 361) (KD := 1) (J := 189) (mj := mj179) (as := [.ref 0, .int (g19 0 4), .int v1]) (r := []) (q := 92) rfl (fun _ _ _ _ _ _ => rfl) rfl (by decide) rfl rfl rfl rfl rfl (Nat.le_of_ble_eq_true rfl) (d_recv atM0 (by decide) (by decide)) rfl (m_X7_read (Nat.le_trans (by decide) hd) (g19 0 4) v1 g19) (fun r20 g21 => ?_)
        refine y_iconst (x := 0) (q := 93) rfl (by decide) rfl ?_
        refine y_bipush (x := 60) (q := 95) rfl (by decide) rfl ?_
        refine y_callP (I := .invokestatic 127) (idx := 127) (KD := 0) (J := 129) (mj := mj119) (as := [.int r20, .int 0, .int 60]) (r := []) (q := 98) rfl (fun _ _ _ _ _ _ => rfl) rfl (by decide) rfl rfl rfl rfl rfl (Nat.le_of_ble_eq_true rfl) rfl rfl (m_X7_within (Nat.le_trans (by decide) hd) r20 0 60 g21) (fun r22 => ?_)
        exact y_retI rfl (by decide) rfl rfl
    · skip
      refine y_aload_n (q := 40) rfl rfl rfl ?_
      refine y_getR (b := 5) (q := 43) rfl rfl (by decide) atM0 rfl rfl ?_
      refine y_iload_n (q := 44) rfl rfl rfl ?_
      refine y_guard (fun c23 => ?_)
      refine y_iald (n := 8) (N := 8) (X := v3.toInt) (K := v3.toInt.toNat) (q := 45) hbM rfl atM5 rfl rfl c23 rfl rfl ?_
      refine y_putI (q := 48) rfl rfl (by decide) atM0 rfl rfl rfl rfl (fun g24 => ?_)
      refine y_aload_n (q := 49) rfl rfl rfl ?_
      refine y_aload_n (q := 50) rfl rfl rfl ?_
      refine y_iload_n (q := 51) rfl rfl rfl ?_
      refine y_callP (I := .invokevirtual 148) (idx := 148) (KD := 1) (J := 142) (mj := mj132) (as := [.ref 0, .int v2]) (r := [.ref 0]) (q := 54) rfl (fun _ _ _ _ _ _ => rfl) rfl (by decide) rfl rfl rfl rfl rfl (Nat.le_of_ble_eq_true rfl) (d_recv atM0 (by decide) (by decide)) rfl (m_X7_seatsOf (Nat.le_trans (by decide) hd) v2 g24) (fun r25 => ?_)
      refine y_putI (q := 57) rfl rfl (by decide) atM0 rfl rfl rfl rfl (fun g26 => ?_)
      refine y_aload_n (q := 58) rfl rfl rfl ?_
      refine y_aload_n (q := 59) rfl rfl rfl ?_
      refine y_getI (q := 62) rfl rfl (by decide) atM0 rfl rfl ?_
      refine y_putI (q := 65) rfl rfl (by decide) atM0 rfl rfl rfl rfl (fun g27 => ?_)
      refine y_aload_n (q := 66) rfl rfl rfl ?_
      refine y_iload_n (q := 67) rfl rfl rfl ?_
      refine y_iconst (x := (-1)) (q := 68) rfl (by decide) rfl ?_
      refine y_ne (q := 75) (q' := 71) rfl rfl (by decide) rfl rfl (fun c28 => ?_) (fun c29 => ?_)
      · skip
        refine y_iconst (x := 0) (q := 72) rfl (by decide) rfl ?_
        refine y_goto (q := 80) rfl rfl ?_
        refine y_putI (q := 83) rfl rfl (by decide) atM0 rfl rfl rfl rfl (fun g30 => ?_)
        refine y_aload_n (q := 84) rfl rfl rfl ?_
        refine y_aload_n (q := 85) rfl rfl rfl ?_
        refine y_getI (q := 88) rfl rfl (by decide) atM0 rfl rfl ?_
        refine y_iload_n (q := 89) rfl rfl rfl ?_
        refine y_callI (I := .invokevirtual 361) (idx := 361) (KD := 1) (J := 189) (mj := mj179) (as := [.ref 0, .int (g30 0 4), .int v1]) (r := []) (q := 92) rfl (fun _ _ _ _ _ _ => rfl) rfl (by decide) rfl rfl rfl rfl rfl (Nat.le_of_ble_eq_true rfl) (d_recv atM0 (by decide) (by decide)) rfl (m_X7_read (Nat.le_trans (by decide) hd) (g30 0 4) v1 g30) (fun r31 g32 => ?_)
        refine y_iconst (x := 0) (q := 93) rfl (by decide) rfl ?_
        refine y_bipush (x := 60) (q := 95) rfl (by decide) rfl ?_
        refine y_callP (I := .invokestatic 127) (idx := 127) (KD := 0) (J := 129) (mj := mj119) (as := [.int r31, .int 0, .int 60]) (r := []) (q := 98) rfl (fun _ _ _ _ _ _ => rfl) rfl (by decide) rfl rfl rfl rfl rfl (Nat.le_of_ble_eq_true rfl) rfl rfl (m_X7_within (Nat.le_trans (by decide) hd) r31 0 60 g32) (fun r33 => ?_)
        exact y_retI rfl (by decide) rfl rfl
      · skip
        refine y_iload_n (q := 76) rfl rfl rfl ?_
        refine y_iload_n (q := 77) rfl rfl rfl ?_
        refine y_callP (I := .invokestatic 364) (idx := 364) (KD := 0) (J := 193) (mj := mj183) (as := [.int v2, .int v3]) (r := [.ref 0]) (q := 80) rfl (fun _ _ _ _ _ _ => rfl) rfl (by decide) rfl rfl rfl rfl rfl (Nat.le_of_ble_eq_true rfl) rfl rfl (m_X7_apart (Nat.le_trans (by decide) hd) v2 v3 g27) (fun r34 => ?_)
        refine y_putI (q := 83) rfl rfl (by decide) atM0 rfl rfl rfl rfl (fun g35 => ?_)
        refine y_aload_n (q := 84) rfl rfl rfl ?_
        refine y_aload_n (q := 85) rfl rfl rfl ?_
        refine y_getI (q := 88) rfl rfl (by decide) atM0 rfl rfl ?_
        refine y_iload_n (q := 89) rfl rfl rfl ?_
        refine y_callI (I := .invokevirtual 361) (idx := 361) (KD := 1) (J := 189) (mj := mj179) (as := [.ref 0, .int (g35 0 4), .int v1]) (r := []) (q := 92) rfl (fun _ _ _ _ _ _ => rfl) rfl (by decide) rfl rfl rfl rfl rfl (Nat.le_of_ble_eq_true rfl) (d_recv atM0 (by decide) (by decide)) rfl (m_X7_read (Nat.le_trans (by decide) hd) (g35 0 4) v1 g35) (fun r36 g37 => ?_)
        refine y_iconst (x := 0) (q := 93) rfl (by decide) rfl ?_
        refine y_bipush (x := 60) (q := 95) rfl (by decide) rfl ?_
        refine y_callP (I := .invokestatic 127) (idx := 127) (KD := 0) (J := 129) (mj := mj119) (as := [.int r36, .int 0, .int 60]) (r := []) (q := 98) rfl (fun _ _ _ _ _ _ => rfl) rfl (by decide) rfl rfl rfl rfl rfl (Nat.le_of_ble_eq_true rfl) rfl rfl (m_X7_within (Nat.le_trans (by decide) hd) r36 0 60 g37) (fun r38 => ?_)
        exact y_retI rfl (by decide) rfl rfl
  · skip
    refine y_aload_n (q := 11) rfl rfl rfl ?_
    refine y_iload_n (q := 12) rfl rfl rfl ?_
    refine y_iload_n (q := 13) rfl rfl rfl ?_
    refine y_callP (I := .invokevirtual 139) (idx := 139) (KD := 1) (J := 136) (mj := mj126) (as := [.ref 0, .int v2, .int v3]) (r := [.ref 0]) (q := 16) rfl (fun _ _ _ _ _ _ => rfl) rfl (by decide) rfl rfl rfl rfl rfl (Nat.le_of_ble_eq_true rfl) (d_recv atM0 (by decide) (by decide)) rfl (m_X7_strengthOf (Nat.le_trans (by decide) hd) v2 v3 h) (fun r39 => ?_)
    refine y_putI (q := 19) rfl rfl (by decide) atM0 rfl rfl rfl rfl (fun g40 => ?_)
    refine y_aload_n (q := 20) rfl rfl rfl ?_
    refine y_aload_n (q := 21) rfl rfl rfl ?_
    refine y_getR (b := 5) (q := 24) rfl rfl (by decide) atM0 rfl rfl ?_
    refine y_iload_n (q := 25) rfl rfl rfl ?_
    refine y_guard (fun c41 => ?_)
    refine y_iald (n := 8) (N := 8) (X := v2.toInt) (K := v2.toInt.toNat) (q := 26) hbM rfl atM5 rfl rfl c41 rfl rfl ?_
    refine y_putI (q := 29) rfl rfl (by decide) atM0 rfl rfl rfl rfl (fun g42 => ?_)
    refine y_aload_n (q := 30) rfl rfl rfl ?_
    refine y_iload_n (q := 31) rfl rfl rfl ?_
    refine y_iconst (x := (-1)) (q := 32) rfl (by decide) rfl ?_
    refine y_ne (q := 39) (q' := 35) rfl rfl (by decide) rfl rfl (fun c43 => ?_) (fun c44 => ?_)
    · skip
      refine y_iconst (x := 0) (q := 36) rfl (by decide) rfl ?_
      refine y_goto (q := 45) rfl rfl ?_
      refine y_putI (q := 48) rfl rfl (by decide) atM0 rfl rfl rfl rfl (fun g45 => ?_)
      refine y_aload_n (q := 49) rfl rfl rfl ?_
      refine y_aload_n (q := 50) rfl rfl rfl ?_
      refine y_iload_n (q := 51) rfl rfl rfl ?_
      refine y_callP (I := .invokevirtual 148) (idx := 148) (KD := 1) (J := 142) (mj := mj132) (as := [.ref 0, .int v2]) (r := [.ref 0]) (q := 54) rfl (fun _ _ _ _ _ _ => rfl) rfl (by decide) rfl rfl rfl rfl rfl (Nat.le_of_ble_eq_true rfl) (d_recv atM0 (by decide) (by decide)) rfl (m_X7_seatsOf (Nat.le_trans (by decide) hd) v2 g45) (fun r46 => ?_)
      refine y_putI (q := 57) rfl rfl (by decide) atM0 rfl rfl rfl rfl (fun g47 => ?_)
      refine y_aload_n (q := 58) rfl rfl rfl ?_
      refine y_aload_n (q := 59) rfl rfl rfl ?_
      refine y_getI (q := 62) rfl rfl (by decide) atM0 rfl rfl ?_
      refine y_putI (q := 65) rfl rfl (by decide) atM0 rfl rfl rfl rfl (fun g48 => ?_)
      refine y_aload_n (q := 66) rfl rfl rfl ?_
      refine y_iload_n (q := 67) rfl rfl rfl ?_
      refine y_iconst (x := (-1)) (q := 68) rfl (by decide) rfl ?_
      refine y_ne (q := 75) (q' := 71) rfl rfl (by decide) rfl rfl (fun c49 => ?_) (fun c50 => ?_)
      · skip
        refine y_iconst (x := 0) (q := 72) rfl (by decide) rfl ?_
        refine y_goto (q := 80) rfl rfl ?_
        refine y_putI (q := 83) rfl rfl (by decide) atM0 rfl rfl rfl rfl (fun g51 => ?_)
        refine y_aload_n (q := 84) rfl rfl rfl ?_
        refine y_aload_n (q := 85) rfl rfl rfl ?_
        refine y_getI (q := 88) rfl rfl (by decide) atM0 rfl rfl ?_
        refine y_iload_n (q := 89) rfl rfl rfl ?_
        refine y_callI (I := .invokevirtual 361) (idx := 361) (KD := 1) (J := 189) (mj := mj179) (as := [.ref 0, .int (g51 0 4), .int v1]) (r := []) (q := 92) rfl (fun _ _ _ _ _ _ => rfl) rfl (by decide) rfl rfl rfl rfl rfl (Nat.le_of_ble_eq_true rfl) (d_recv atM0 (by decide) (by decide)) rfl (m_X7_read (Nat.le_trans (by decide) hd) (g51 0 4) v1 g51) (fun r52 g53 => ?_)
        refine y_iconst (x := 0) (q := 93) rfl (by decide) rfl ?_
        refine y_bipush (x := 60) (q := 95) rfl (by decide) rfl ?_
        refine y_callP (I := .invokestatic 127) (idx := 127) (KD := 0) (J := 129) (mj := mj119) (as := [.int r52, .int 0, .int 60]) (r := []) (q := 98) rfl (fun _ _ _ _ _ _ => rfl) rfl (by decide) rfl rfl rfl rfl rfl (Nat.le_of_ble_eq_true rfl) rfl rfl (m_X7_within (Nat.le_trans (by decide) hd) r52 0 60 g53) (fun r54 => ?_)
        exact y_retI rfl (by decide) rfl rfl
      · skip
        refine y_iload_n (q := 76) rfl rfl rfl ?_
        refine y_iload_n (q := 77) rfl rfl rfl ?_
        refine y_callP (I := .invokestatic 364) (idx := 364) (KD := 0) (J := 193) (mj := mj183) (as := [.int v2, .int v3]) (r := [.ref 0]) (q := 80) rfl (fun _ _ _ _ _ _ => rfl) rfl (by decide) rfl rfl rfl rfl rfl (Nat.le_of_ble_eq_true rfl) rfl rfl (m_X7_apart (Nat.le_trans (by decide) hd) v2 v3 g48) (fun r55 => ?_)
        refine y_putI (q := 83) rfl rfl (by decide) atM0 rfl rfl rfl rfl (fun g56 => ?_)
        refine y_aload_n (q := 84) rfl rfl rfl ?_
        refine y_aload_n (q := 85) rfl rfl rfl ?_
        refine y_getI (q := 88) rfl rfl (by decide) atM0 rfl rfl ?_
        refine y_iload_n (q := 89) rfl rfl rfl ?_
        refine y_callI (I := .invokevirtual 361) (idx := 361) (KD := 1) (J := 189) (mj := mj179) (as := [.ref 0, .int (g56 0 4), .int v1]) (r := []) (q := 92) rfl (fun _ _ _ _ _ _ => rfl) rfl (by decide) rfl rfl rfl rfl rfl (Nat.le_of_ble_eq_true rfl) (d_recv atM0 (by decide) (by decide)) rfl (m_X7_read (Nat.le_trans (by decide) hd) (g56 0 4) v1 g56) (fun r57 g58 => ?_)
        refine y_iconst (x := 0) (q := 93) rfl (by decide) rfl ?_
        refine y_bipush (x := 60) (q := 95) rfl (by decide) rfl ?_
        refine y_callP (I := .invokestatic 127) (idx := 127) (KD := 0) (J := 129) (mj := mj119) (as := [.int r57, .int 0, .int 60]) (r := []) (q := 98) rfl (fun _ _ _ _ _ _ => rfl) rfl (by decide) rfl rfl rfl rfl rfl (Nat.le_of_ble_eq_true rfl) rfl rfl (m_X7_within (Nat.le_trans (by decide) hd) r57 0 60 g58) (fun r59 => ?_)
        exact y_retI rfl (by decide) rfl rfl
    · skip
      refine y_aload_n (q := 40) rfl rfl rfl ?_
      refine y_getR (b := 5) (q := 43) rfl rfl (by decide) atM0 rfl rfl ?_
      refine y_iload_n (q := 44) rfl rfl rfl ?_
      refine y_guard (fun c60 => ?_)
      refine y_iald (n := 8) (N := 8) (X := v3.toInt) (K := v3.toInt.toNat) (q := 45) hbM rfl atM5 rfl rfl c60 rfl rfl ?_
      refine y_putI (q := 48) rfl rfl (by decide) atM0 rfl rfl rfl rfl (fun g61 => ?_)
      refine y_aload_n (q := 49) rfl rfl rfl ?_
      refine y_aload_n (q := 50) rfl rfl rfl ?_
      refine y_iload_n (q := 51) rfl rfl rfl ?_
      refine y_callP (I := .invokevirtual 148) (idx := 148) (KD := 1) (J := 142) (mj := mj132) (as := [.ref 0, .int v2]) (r := [.ref 0]) (q := 54) rfl (fun _ _ _ _ _ _ => rfl) rfl (by decide) rfl rfl rfl rfl rfl (Nat.le_of_ble_eq_true rfl) (d_recv atM0 (by decide) (by decide)) rfl (m_X7_seatsOf (Nat.le_trans (by decide) hd) v2 g61) (fun r62 => ?_)
      refine y_putI (q := 57) rfl rfl (by decide) atM0 rfl rfl rfl rfl (fun g63 => ?_)
      refine y_aload_n (q := 58) rfl rfl rfl ?_
      refine y_aload_n (q := 59) rfl rfl rfl ?_
      refine y_getI (q := 62) rfl rfl (by decide) atM0 rfl rfl ?_
      refine y_putI (q := 65) rfl rfl (by decide) atM0 rfl rfl rfl rfl (fun g64 => ?_)
      refine y_aload_n (q := 66) rfl rfl rfl ?_
      refine y_iload_n (q := 67) rfl rfl rfl ?_
      refine y_iconst (x := (-1)) (q := 68) rfl (by decide) rfl ?_
      refine y_ne (q := 75) (q' := 71) rfl rfl (by decide) rfl rfl (fun c65 => ?_) (fun c66 => ?_)
      · skip
        refine y_iconst (x := 0) (q := 72) rfl (by decide) rfl ?_
        refine y_goto (q := 80) rfl rfl ?_
        refine y_putI (q := 83) rfl rfl (by decide) atM0 rfl rfl rfl rfl (fun g67 => ?_)
        refine y_aload_n (q := 84) rfl rfl rfl ?_
        refine y_aload_n (q := 85) rfl rfl rfl ?_
        refine y_getI (q := 88) rfl rfl (by decide) atM0 rfl rfl ?_
        refine y_iload_n (q := 89) rfl rfl rfl ?_
        refine y_callI (I := .invokevirtual 361) (idx := 361) (KD := 1) (J := 189) (mj := mj179) (as := [.ref 0, .int (g67 0 4), .int v1]) (r := []) (q := 92) rfl (fun _ _ _ _ _ _ => rfl) rfl (by decide) rfl rfl rfl rfl rfl (Nat.le_of_ble_eq_true rfl) (d_recv atM0 (by decide) (by decide)) rfl (m_X7_read (Nat.le_trans (by decide) hd) (g67 0 4) v1 g67) (fun r68 g69 => ?_)
        refine y_iconst (x := 0) (q := 93) rfl (by decide) rfl ?_
        refine y_bipush (x := 60) (q := 95) rfl (by decide) rfl ?_
        refine y_callP (I := .invokestatic 127) (idx := 127) (KD := 0) (J := 129) (mj := mj119) (as := [.int r68, .int 0, .int 60]) (r := []) (q := 98) rfl (fun _ _ _ _ _ _ => rfl) rfl (by decide) rfl rfl rfl rfl rfl (Nat.le_of_ble_eq_true rfl) rfl rfl (m_X7_within (Nat.le_trans (by decide) hd) r68 0 60 g69) (fun r70 => ?_)
        exact y_retI rfl (by decide) rfl rfl
      · skip
        refine y_iload_n (q := 76) rfl rfl rfl ?_
        refine y_iload_n (q := 77) rfl rfl rfl ?_
        refine y_callP (I := .invokestatic 364) (idx := 364) (KD := 0) (J := 193) (mj := mj183) (as := [.int v2, .int v3]) (r := [.ref 0]) (q := 80) rfl (fun _ _ _ _ _ _ => rfl) rfl (by decide) rfl rfl rfl rfl rfl (Nat.le_of_ble_eq_true rfl) rfl rfl (m_X7_apart (Nat.le_trans (by decide) hd) v2 v3 g64) (fun r71 => ?_)
        refine y_putI (q := 83) rfl rfl (by decide) atM0 rfl rfl rfl rfl (fun g72 => ?_)
        refine y_aload_n (q := 84) rfl rfl rfl ?_
        refine y_aload_n (q := 85) rfl rfl rfl ?_
        refine y_getI (q := 88) rfl rfl (by decide) atM0 rfl rfl ?_
        refine y_iload_n (q := 89) rfl rfl rfl ?_
        refine y_callI (I := .invokevirtual 361) (idx := 361) (KD := 1) (J := 189) (mj := mj179) (as := [.ref 0, .int (g72 0 4), .int v1]) (r := []) (q := 92) rfl (fun _ _ _ _ _ _ => rfl) rfl (by decide) rfl rfl rfl rfl rfl (Nat.le_of_ble_eq_true rfl) (d_recv atM0 (by decide) (by decide)) rfl (m_X7_read (Nat.le_trans (by decide) hd) (g72 0 4) v1 g72) (fun r73 g74 => ?_)
        refine y_iconst (x := 0) (q := 93) rfl (by decide) rfl ?_
        refine y_bipush (x := 60) (q := 95) rfl (by decide) rfl ?_
        refine y_callP (I := .invokestatic 127) (idx := 127) (KD := 0) (J := 129) (mj := mj119) (as := [.int r73, .int 0, .int 60]) (r := []) (q := 98) rfl (fun _ _ _ _ _ _ => rfl) rfl (by decide) rfl rfl rfl rfl rfl (Nat.le_of_ble_eq_true rfl) rfl rfl (m_X7_within (Nat.le_trans (by decide) hd) r73 0 60 g74) (fun r75 => ?_)
        exact y_retI rfl (by decide) rfl rfl
def f_X7_soundsOf (v1 : Int32) (h : dH) : Option (Int32 × dH) := if 0 ≤ v1.toInt ∧ v1.toInt < 8 then (oI (f_X7_says 2 v1 (-1) h) (fun r2 g3 => if (h 4 (v1.toInt.toNat)).toInt = 1 then (some ((r2 + 5), g3)) else (if (h 4 (v1.toInt.toNat)).toInt = 3 then (some ((2 * (r2 + 5)), g3)) else (if (h 4 (v1.toInt.toNat)).toInt = 2 then (some (0, g3)) else (if (h 4 (v1.toInt.toNat)).toInt = 4 then (some (0, g3)) else (if (h 4 (v1.toInt.toNat)).toInt = 5 then (if 0 ≤ v1.toInt ∧ v1.toInt < 8 then (some ((g3 5 (v1.toInt.toNat)), g3)) else none) else (some (r2, g3)))))))) else none
theorem m_X7_soundsOf {d : Nat} (hd : 44 ≤ d) (v1 : Int32) (h : dH) : dX shM d 186 [.ref 0, .int v1] dI (f_X7_soundsOf v1 h) h := by
  obtain ⟨e, rfl⟩ : ∃ e, d = e + 1 := ⟨d - 1, by omega⟩
  have hd : 43 ≤ e := by omega
  refine dX_of (mj := mj186) (lo := [some (.ref 0), some (.int v1), none, none]) rfl (Nat.le_of_ble_eq_true rfl) rfl ?_
  unfold f_X7_soundsOf
  refine y_aload_n (q := 1) rfl rfl rfl ?_
  refine y_getR (b := 4) (q := 4) rfl rfl (by decide) atM0 rfl rfl ?_
  refine y_iload_n (q := 5) rfl rfl rfl ?_
  refine y_guard (fun c1 => ?_)
  refine y_iald (n := 8) (N := 8) (X := v1.toInt) (K := v1.toInt.toNat) (q := 6) hbM rfl atM4 rfl rfl c1 rfl rfl ?_
  refine y_istore_n (lo' := [some (.ref 0), some (.int v1), some (.int (h 4 (v1.toInt.toNat))), none]) (q := 7) rfl (Nat.le_of_ble_eq_true rfl) rfl rfl ?_
  refine y_aload_n (q := 8) rfl rfl rfl ?_
  refine y_iconst (x := 2) (q := 9) rfl (by decide) rfl ?_
  refine y_iload_n (q := 10) rfl rfl rfl ?_
  refine y_iconst (x := (-1)) (q := 11) rfl (by decide) rfl ?_
  refine y_callI (I := .invokevirtual 367) (idx := 367) (KD := 1) (J := 192) (mj := mj182) (as := [.ref 0, .int 2, .int v1, .int (-1)]) (r := []) (q := 14) rfl (fun _ _ _ _ _ _ => rfl) rfl (by decide) rfl rfl rfl rfl rfl (Nat.le_of_ble_eq_true rfl) (d_recv atM0 (by decide) (by decide)) rfl (m_X7_says (Nat.le_trans (by decide) hd) 2 v1 (-1) h) (fun r2 g3 => ?_)
  refine y_istore_n (lo' := [some (.ref 0), some (.int v1), some (.int (h 4 (v1.toInt.toNat))), some (.int r2)]) (q := 15) rfl (Nat.le_of_ble_eq_true rfl) rfl rfl ?_
  refine y_iload_n (q := 16) rfl rfl rfl ?_
  refine y_iconst (x := 1) (q := 17) rfl (by decide) rfl ?_
  refine y_ne (q := 26) (q' := 20) rfl rfl (by decide) rfl rfl (fun c4 => ?_) (fun c5 => ?_)
  · skip
    refine y_iload_n (q := 21) rfl rfl rfl ?_
    refine y_iconst (x := 5) (q := 22) rfl (by decide) rfl ?_
    refine y_iadd (q := 23) rfl rfl ?_
    refine y_goto (q := 68) rfl rfl ?_
    exact y_retI rfl (by decide) rfl rfl
  · skip
    refine y_iload_n (q := 27) rfl rfl rfl ?_
    refine y_iconst (x := 3) (q := 28) rfl (by decide) rfl ?_
    refine y_ne (q := 39) (q' := 31) rfl rfl (by decide) rfl rfl (fun c6 => ?_) (fun c7 => ?_)
    · skip
      refine y_iconst (x := 2) (q := 32) rfl (by decide) rfl ?_
      refine y_iload_n (q := 33) rfl rfl rfl ?_
      refine y_iconst (x := 5) (q := 34) rfl (by decide) rfl ?_
      refine y_iadd (q := 35) rfl rfl ?_
      refine y_imul (q := 36) rfl rfl ?_
      refine y_goto (q := 68) rfl rfl ?_
      exact y_retI rfl (by decide) rfl rfl
    · skip
      refine y_iload_n (q := 40) rfl rfl rfl ?_
      refine y_iconst (x := 2) (q := 41) rfl (by decide) rfl ?_
      refine y_eq (q := 49) (q' := 44) rfl rfl (by decide) rfl rfl (fun c8 => ?_) (fun c9 => ?_)
      · skip
        refine y_iconst (x := 0) (q := 50) rfl (by decide) rfl ?_
        refine y_goto (q := 68) rfl rfl ?_
        exact y_retI rfl (by decide) rfl rfl
      · skip
        refine y_iload_n (q := 45) rfl rfl rfl ?_
        refine y_iconst (x := 4) (q := 46) rfl (by decide) rfl ?_
        refine y_ne (q := 53) (q' := 49) rfl rfl (by decide) rfl rfl (fun c10 => ?_) (fun c11 => ?_)
        · skip
          refine y_iconst (x := 0) (q := 50) rfl (by decide) rfl ?_
          refine y_goto (q := 68) rfl rfl ?_
          exact y_retI rfl (by decide) rfl rfl
        · skip
          refine y_iload_n (q := 54) rfl rfl rfl ?_
          refine y_iconst (x := 5) (q := 55) rfl (by decide) rfl ?_
          refine y_ne (q := 67) (q' := 58) rfl rfl (by decide) rfl rfl (fun c12 => ?_) (fun c13 => ?_)
          · skip
            refine y_aload_n (q := 59) rfl rfl rfl ?_
            refine y_getR (b := 5) (q := 62) rfl rfl (by decide) atM0 rfl rfl ?_
            refine y_iload_n (q := 63) rfl rfl rfl ?_
            refine y_guard (fun c14 => ?_)
            refine y_iald (n := 8) (N := 8) (X := v1.toInt) (K := v1.toInt.toNat) (q := 64) hbM rfl atM5 rfl rfl c14 rfl rfl ?_
            refine y_goto (q := 68) rfl rfl ?_
            exact y_retI rfl (by decide) rfl rfl
          · skip
            refine y_iload_n (q := 68) rfl rfl rfl ?_
            exact y_retI rfl (by decide) rfl rfl
def l_X7_told_171 (v1 : Int32) (h : dH) (k : Int32 → Option (Int32 × dH)) : Nat → Int32 → Int32 → Option (Int32 × dH)
  | 0, _, _ => none
  | n + 1, v4, v5 => if v5.toInt < (h 0 13).toInt then (oP (f_X7_knows v1 v5 h) (fun r34 => if r34.toInt = 0 then (l_X7_told_171 v1 h k n (v4 + 0) (v5 + 1) ) else (l_X7_told_171 v1 h k n (v4 + 1) (v5 + 1) ))) else (k v4 )
theorem lz_X7_told_171 {d : Nat} (hd : 44 ≤ d) (v1 : Int32) (v2 : Int32) (v3 : Int32) (h : dH) (k : Int32 → Option (Int32 × dH)) (hk : ∀ (v4 : Int32) (w5 : Int32), dY shM d mj131 dI (k v4) 206 [some (.ref 0), some (.int v1), some (.int v2), some (.int v3), some (.int v4), some (.int w5)] [] h) : ∀ (n : Nat) (v4 : Int32) (v5 : Int32), dY shM d mj131 dI (l_X7_told_171 v1 h k n v4 v5) 171 [some (.ref 0), some (.int v1), some (.int v2), some (.int v3), some (.int v4), some (.int v5)] [] h
  | 0, _, _ => dY_none
  | n + 1, v4, v5 => by
    rw [l_X7_told_171]
    refine y_iload (q := 173) rfl rfl rfl ?_
    refine y_aload_n (q := 174) rfl rfl rfl ?_
    refine y_getI (q := 177) rfl rfl (by decide) atM0 rfl rfl ?_
    refine y_ge (q := 206) (q' := 180) rfl rfl rfl rfl rfl (fun c32 => ?_) (fun c33 => ?_)
    · skip
      refine y_iload (q := 182) rfl rfl rfl ?_
      refine y_aload_n (q := 183) rfl rfl rfl ?_
      refine y_iload_n (q := 184) rfl rfl rfl ?_
      refine y_iload (q := 186) rfl rfl rfl ?_
      refine y_callP (I := .invokevirtual 155) (idx := 155) (KD := 1) (J := 202) (mj := mj192) (as := [.ref 0, .int v1, .int v5]) (r := [.int v4]) (q := 189) rfl (fun _ _ _ _ _ _ => rfl) rfl (by decide) rfl rfl rfl rfl rfl (Nat.le_of_ble_eq_true rfl) (d_recv atM0 (by decide) (by decide)) rfl (m_X7_knows (Nat.le_trans (by decide) hd) v1 v5 h) (fun r34 => ?_)
      refine y_eq0 (q := 196) (q' := 192) rfl rfl rfl rfl (fun c35 => ?_) (fun c36 => ?_)
      · skip
        refine y_iconst (x := 0) (q := 197) rfl (by decide) rfl ?_
        refine y_iadd (q := 198) rfl rfl ?_
        refine y_istore (lo' := [some (.ref 0), some (.int v1), some (.int v2), some (.int v3), some (.int (v4 + 0)), some (.int v5)]) (q := 200) rfl (Nat.le_of_ble_eq_true rfl) rfl rfl ?_
        refine y_iinc (z := (v5 + 1)) (lo' := [some (.ref 0), some (.int v1), some (.int v2), some (.int v3), some (.int (v4 + 0)), some (.int (v5 + 1))]) (q := 203) rfl rfl (Nat.le_of_ble_eq_true rfl) (by rw [oi_1]) rfl rfl ?_
        refine y_goto (q := 171) rfl rfl ?_
        exact lz_X7_told_171 hd v1 v2 v3 h k hk n (v4 + 0) (v5 + 1)  
      · skip
        refine y_iconst (x := 1) (q := 193) rfl (by decide) rfl ?_
        refine y_goto (q := 197) rfl rfl ?_
        refine y_iadd (q := 198) rfl rfl ?_
        refine y_istore (lo' := [some (.ref 0), some (.int v1), some (.int v2), some (.int v3), some (.int (v4 + 1)), some (.int v5)]) (q := 200) rfl (Nat.le_of_ble_eq_true rfl) rfl rfl ?_
        refine y_iinc (z := (v5 + 1)) (lo' := [some (.ref 0), some (.int v1), some (.int v2), some (.int v3), some (.int (v4 + 1)), some (.int (v5 + 1))]) (q := 203) rfl rfl (Nat.le_of_ble_eq_true rfl) (by rw [oi_1]) rfl rfl ?_
        refine y_goto (q := 171) rfl rfl ?_
        exact lz_X7_told_171 hd v1 v2 v3 h k hk n (v4 + 1) (v5 + 1)  
    · skip
      exact hk v4 v5 
def f_X7_told (v1 : Int32) (v2 : Int32) (h : dH) : Option (Int32 × dH) := oP (f_X7_in (v2.toInt64) 10 17) (fun r1 => if r1.toInt = 0 then (oP (f_X7_in (v2.toInt64) 0 7) (fun r4 => if r4.toInt = 0 then (some ((-2), h)) else (if 1 < v2.toInt then (oP (f_X7_isHouse v1 h) (fun r9 => if r9.toInt = 0 then (some ((-2), h)) else (if v2.toInt < 5 then (if v2.toInt = 0 then (some ((h 0 7), h)) else (if v2.toInt = 1 then (some ((h 0 8), h)) else (if v2.toInt = 2 then (if 0 ≤ v1.toInt ∧ v1.toInt < 8 then (some ((h 5 (v1.toInt.toNat)), h)) else none) else (if v2.toInt = 3 then (if 0 ≤ v1.toInt ∧ v1.toInt < 8 then (some ((h 6 (v1.toInt.toNat)), h)) else none) else (if 0 ≤ v1.toInt ∧ v1.toInt < 8 then (some ((h 4 (v1.toInt.toNat)), h)) else none))))) else (if 5 < v2.toInt then (if v2.toInt = 6 then (oP (f_X7_seatsOf v1 h) (fun r29 => some (r29, h))) else (oI (f_X7_soundsOf v1 h) (fun r30 g31 => some (r30, g31)))) else (l_X7_told_171 v1 h (fun v4_37 => some (v4_37, h)) fuel0 0 0 ))))) else (if v2.toInt < 5 then (if v2.toInt = 0 then (some ((h 0 7), h)) else (if v2.toInt = 1 then (some ((h 0 8), h)) else (if v2.toInt = 2 then (if 0 ≤ v1.toInt ∧ v1.toInt < 8 then (some ((h 5 (v1.toInt.toNat)), h)) else none) else (if v2.toInt = 3 then (if 0 ≤ v1.toInt ∧ v1.toInt < 8 then (some ((h 6 (v1.toInt.toNat)), h)) else none) else (if 0 ≤ v1.toInt ∧ v1.toInt < 8 then (some ((h 4 (v1.toInt.toNat)), h)) else none))))) else (if 5 < v2.toInt then (if v2.toInt = 6 then (oP (f_X7_seatsOf v1 h) (fun r56 => some (r56, h))) else (oI (f_X7_soundsOf v1 h) (fun r57 g58 => some (r57, g58)))) else (l_X7_told_171 v1 h (fun v4_59 => some (v4_59, h)) fuel0 0 0 )))))) else (oP (f_X7_isHouse (v2 - 10) h) (fun r61 => if r61.toInt = 0 then (oP (f_X7_in (v2.toInt64) 0 7) (fun r64 => if r64.toInt = 0 then (some ((-2), h)) else (if 1 < v2.toInt then (oP (f_X7_isHouse v1 h) (fun r69 => if r69.toInt = 0 then (some ((-2), h)) else (if v2.toInt < 5 then (if v2.toInt = 0 then (some ((h 0 7), h)) else (if v2.toInt = 1 then (some ((h 0 8), h)) else (if v2.toInt = 2 then (if 0 ≤ v1.toInt ∧ v1.toInt < 8 then (some ((h 5 (v1.toInt.toNat)), h)) else none) else (if v2.toInt = 3 then (if 0 ≤ v1.toInt ∧ v1.toInt < 8 then (some ((h 6 (v1.toInt.toNat)), h)) else none) else (if 0 ≤ v1.toInt ∧ v1.toInt < 8 then (some ((h 4 (v1.toInt.toNat)), h)) else none))))) else (if 5 < v2.toInt then (if v2.toInt = 6 then (oP (f_X7_seatsOf v1 h) (fun r89 => some (r89, h))) else (oI (f_X7_soundsOf v1 h) (fun r90 g91 => some (r90, g91)))) else (l_X7_told_171 v1 h (fun v4_92 => some (v4_92, h)) fuel0 0 0 ))))) else (if v2.toInt < 5 then (if v2.toInt = 0 then (some ((h 0 7), h)) else (if v2.toInt = 1 then (some ((h 0 8), h)) else (if v2.toInt = 2 then (if 0 ≤ v1.toInt ∧ v1.toInt < 8 then (some ((h 5 (v1.toInt.toNat)), h)) else none) else (if v2.toInt = 3 then (if 0 ≤ v1.toInt ∧ v1.toInt < 8 then (some ((h 6 (v1.toInt.toNat)), h)) else none) else (if 0 ≤ v1.toInt ∧ v1.toInt < 8 then (some ((h 4 (v1.toInt.toNat)), h)) else none))))) else (if 5 < v2.toInt then (if v2.toInt = 6 then (oP (f_X7_seatsOf v1 h) (fun r111 => some (r111, h))) else (oI (f_X7_soundsOf v1 h) (fun r112 g113 => some (r112, g113)))) else (l_X7_told_171 v1 h (fun v4_114 => some (v4_114, h)) fuel0 0 0 )))))) else (oP (f_X7_in (v2.toInt64) 0 7) (fun r116 => if r116.toInt = 0 then (if 1 < v2.toInt then (oP (f_X7_isHouse v1 h) (fun r121 => if r121.toInt = 0 then (some ((-2), h)) else (oP (f_X7_strengthOf v1 (v2 - 10) h) (fun r124 => some (r124, h))))) else (oP (f_X7_strengthOf v1 (v2 - 10) h) (fun r125 => some (r125, h)))) else (if 1 < v2.toInt then (oP (f_X7_isHouse v1 h) (fun r128 => if r128.toInt = 0 then (some ((-2), h)) else (oP (f_X7_strengthOf v1 (v2 - 10) h) (fun r131 => some (r131, h))))) else (oP (f_X7_strengthOf v1 (v2 - 10) h) (fun r132 => some (r132, h)))))))))
theorem m_X7_told {d : Nat} (hd : 45 ≤ d) (v1 : Int32) (v2 : Int32) (h : dH) : dX shM d 131 [.ref 0, .int v1, .int v2] dI (f_X7_told v1 v2 h) h := by
  obtain ⟨e, rfl⟩ : ∃ e, d = e + 1 := ⟨d - 1, by omega⟩
  have hd : 44 ≤ e := by omega
  refine dX_of (mj := mj131) (lo := [some (.ref 0), some (.int v1), some (.int v2), none, none, none]) rfl (Nat.le_of_ble_eq_true rfl) rfl ?_
  unfold f_X7_told
  refine y_iload_n (q := 1) rfl rfl rfl ?_
  refine y_i2l (q := 2) rfl rfl ?_
  refine y_ldc2_w (u := 10) (q := 5) rfl rfl rfl ?_
  refine y_ldc2_w (u := 17) (q := 8) rfl rfl rfl ?_
  refine y_callP (I := .invokestatic 91) (idx := 91) (KD := 0) (J := 128) (mj := mj118) (as := [.long v2.toInt64, .long 10, .long 17]) (r := []) (q := 11) rfl (fun _ _ _ _ _ _ => rfl) rfl (by decide) rfl rfl rfl rfl rfl (Nat.le_of_ble_eq_true rfl) rfl rfl (m_X7_in (Nat.le_trans (by decide) hd) (v2.toInt64) 10 17 h) (fun r1 => ?_)
  refine y_eq0 (q := 29) (q' := 14) rfl rfl rfl rfl (fun c2 => ?_) (fun c3 => ?_)
  · skip
    refine y_iconst (x := 0) (q := 30) rfl (by decide) rfl ?_
    refine y_istore_n (lo' := [some (.ref 0), some (.int v1), some (.int v2), some (.int 0), none, none]) (q := 31) rfl (Nat.le_of_ble_eq_true rfl) rfl rfl ?_
    refine y_iload_n (q := 32) rfl rfl rfl ?_
    refine y_i2l (q := 33) rfl rfl ?_
    refine y_lconst (u := 0) (q := 34) rfl (by decide) rfl ?_
    refine y_ldc2_w (u := 7) (q := 37) rfl rfl rfl ?_
    refine y_callP (I := .invokestatic 91) (idx := 91) (KD := 0) (J := 128) (mj := mj118) (as := [.long v2.toInt64, .long 0, .long 7]) (r := []) (q := 40) rfl (fun _ _ _ _ _ _ => rfl) rfl (by decide) rfl rfl rfl rfl rfl (Nat.le_of_ble_eq_true rfl) rfl rfl (m_X7_in (Nat.le_trans (by decide) hd) (v2.toInt64) 0 7 h) (fun r4 => ?_)
    refine y_ne0 (q := 47) (q' := 43) rfl rfl rfl rfl (fun c5 => ?_) (fun c6 => ?_)
    · skip
      refine y_iload_n (q := 44) rfl rfl rfl ?_
      refine y_ifT (q := 60) rfl (by decide) rfl ?_
      refine y_bipush (x := (-2)) (q := 62) rfl (by decide) rfl ?_
      exact y_retI rfl (by decide) rfl rfl
    · skip
      refine y_iload_n (q := 48) rfl rfl rfl ?_
      refine y_iconst (x := 1) (q := 49) rfl (by decide) rfl ?_
      refine y_le (q := 63) (q' := 52) rfl rfl (by decide) rfl rfl (fun c7 => ?_) (fun c8 => ?_)
      · skip
        refine y_aload_n (q := 53) rfl rfl rfl ?_
        refine y_iload_n (q := 54) rfl rfl rfl ?_
        refine y_callP (I := .invokevirtual 105) (idx := 105) (KD := 1) (J := 132) (mj := mj122) (as := [.ref 0, .int v1]) (r := []) (q := 57) rfl (fun _ _ _ _ _ _ => rfl) rfl (by decide) rfl rfl rfl rfl rfl (Nat.le_of_ble_eq_true rfl) (d_recv atM0 (by decide) (by decide)) rfl (m_X7_isHouse (Nat.le_trans (by decide) hd) v1 h) (fun r9 => ?_)
        refine y_ne0 (q := 63) (q' := 60) rfl rfl rfl rfl (fun c10 => ?_) (fun c11 => ?_)
        · skip
          refine y_bipush (x := (-2)) (q := 62) rfl (by decide) rfl ?_
          exact y_retI rfl (by decide) rfl rfl
        · skip
          refine y_iload_n (q := 64) rfl rfl rfl ?_
          refine y_ifT (q := 77) rfl (by decide) rfl ?_
          refine y_iload_n (q := 78) rfl rfl rfl ?_
          refine y_iconst (x := 5) (q := 79) rfl (by decide) rfl ?_
          refine y_ge (q := 140) (q' := 82) rfl rfl (by decide) rfl rfl (fun c12 => ?_) (fun c13 => ?_)
          · skip
            refine y_iload_n (q := 83) rfl rfl rfl ?_
            refine y_ne0 (q := 93) (q' := 86) rfl rfl rfl rfl (fun c14 => ?_) (fun c15 => ?_)
            · skip
              refine y_aload_n (q := 87) rfl rfl rfl ?_
              refine y_getI (q := 90) rfl rfl (by decide) atM0 rfl rfl ?_
              refine y_goto (q := 139) rfl rfl ?_
              exact y_retI rfl (by decide) rfl rfl
            · skip
              refine y_iload_n (q := 94) rfl rfl rfl ?_
              refine y_iconst (x := 1) (q := 95) rfl (by decide) rfl ?_
              refine y_ne (q := 105) (q' := 98) rfl rfl (by decide) rfl rfl (fun c16 => ?_) (fun c17 => ?_)
              · skip
                refine y_aload_n (q := 99) rfl rfl rfl ?_
                refine y_getI (q := 102) rfl rfl (by decide) atM0 rfl rfl ?_
                refine y_goto (q := 139) rfl rfl ?_
                exact y_retI rfl (by decide) rfl rfl
              · skip
                refine y_iload_n (q := 106) rfl rfl rfl ?_
                refine y_iconst (x := 2) (q := 107) rfl (by decide) rfl ?_
                refine y_ne (q := 119) (q' := 110) rfl rfl (by decide) rfl rfl (fun c18 => ?_) (fun c19 => ?_)
                · skip
                  refine y_aload_n (q := 111) rfl rfl rfl ?_
                  refine y_getR (b := 5) (q := 114) rfl rfl (by decide) atM0 rfl rfl ?_
                  refine y_iload_n (q := 115) rfl rfl rfl ?_
                  refine y_guard (fun c20 => ?_)
                  refine y_iald (n := 8) (N := 8) (X := v1.toInt) (K := v1.toInt.toNat) (q := 116) hbM rfl atM5 rfl rfl c20 rfl rfl ?_
                  refine y_goto (q := 139) rfl rfl ?_
                  exact y_retI rfl (by decide) rfl rfl
                · skip
                  refine y_iload_n (q := 120) rfl rfl rfl ?_
                  refine y_iconst (x := 3) (q := 121) rfl (by decide) rfl ?_
                  refine y_ne (q := 133) (q' := 124) rfl rfl (by decide) rfl rfl (fun c21 => ?_) (fun c22 => ?_)
                  · skip
                    refine y_aload_n (q := 125) rfl rfl rfl ?_
                    refine y_getR (b := 6) (q := 128) rfl rfl (by decide) atM0 rfl rfl ?_
                    refine y_iload_n (q := 129) rfl rfl rfl ?_
                    refine y_guard (fun c23 => ?_)
                    refine y_iald (n := 8) (N := 8) (X := v1.toInt) (K := v1.toInt.toNat) (q := 130) hbM rfl atM6 rfl rfl c23 rfl rfl ?_
                    refine y_goto (q := 139) rfl rfl ?_
                    exact y_retI rfl (by decide) rfl rfl
                  · skip
                    refine y_aload_n (q := 134) rfl rfl rfl ?_
                    refine y_getR (b := 4) (q := 137) rfl rfl (by decide) atM0 rfl rfl ?_
                    refine y_iload_n (q := 138) rfl rfl rfl ?_
                    refine y_guard (fun c24 => ?_)
                    refine y_iald (n := 8) (N := 8) (X := v1.toInt) (K := v1.toInt.toNat) (q := 139) hbM rfl atM4 rfl rfl c24 rfl rfl ?_
                    exact y_retI rfl (by decide) rfl rfl
          · skip
            refine y_iload_n (q := 141) rfl rfl rfl ?_
            refine y_iconst (x := 5) (q := 142) rfl (by decide) rfl ?_
            refine y_le (q := 165) (q' := 145) rfl rfl (by decide) rfl rfl (fun c25 => ?_) (fun c26 => ?_)
            · skip
              refine y_iload_n (q := 146) rfl rfl rfl ?_
              refine y_bipush (x := 6) (q := 148) rfl (by decide) rfl ?_
              refine y_ne (q := 159) (q' := 151) rfl rfl (by decide) rfl rfl (fun c27 => ?_) (fun c28 => ?_)
              · skip
                refine y_aload_n (q := 152) rfl rfl rfl ?_
                refine y_iload_n (q := 153) rfl rfl rfl ?_
                refine y_callP (I := .invokevirtual 148) (idx := 148) (KD := 1) (J := 142) (mj := mj132) (as := [.ref 0, .int v1]) (r := []) (q := 156) rfl (fun _ _ _ _ _ _ => rfl) rfl (by decide) rfl rfl rfl rfl rfl (Nat.le_of_ble_eq_true rfl) (d_recv atM0 (by decide) (by decide)) rfl (m_X7_seatsOf (Nat.le_trans (by decide) hd) v1 h) (fun r29 => ?_)
                refine y_goto (q := 164) rfl rfl ?_
                exact y_retI rfl (by decide) rfl rfl
              · skip
                refine y_aload_n (q := 160) rfl rfl rfl ?_
                refine y_iload_n (q := 161) rfl rfl rfl ?_
                refine y_callI (I := .invokevirtual 152) (idx := 152) (KD := 1) (J := 196) (mj := mj186) (as := [.ref 0, .int v1]) (r := []) (q := 164) rfl (fun _ _ _ _ _ _ => rfl) rfl (by decide) rfl rfl rfl rfl rfl (Nat.le_of_ble_eq_true rfl) (d_recv atM0 (by decide) (by decide)) rfl (m_X7_soundsOf (Nat.le_trans (by decide) hd) v1 h) (fun r30 g31 => ?_)
                exact y_retI rfl (by decide) rfl rfl
            · skip
              refine y_iconst (x := 0) (q := 166) rfl (by decide) rfl ?_
              refine y_istore (lo' := [some (.ref 0), some (.int v1), some (.int v2), some (.int 0), some (.int 0), none]) (q := 168) rfl (Nat.le_of_ble_eq_true rfl) rfl rfl ?_
              refine y_iconst (x := 0) (q := 169) rfl (by decide) rfl ?_
              refine y_istore (lo' := [some (.ref 0), some (.int v1), some (.int v2), some (.int 0), some (.int 0), some (.int 0)]) (q := 171) rfl (Nat.le_of_ble_eq_true rfl) rfl rfl ?_
              refine lz_X7_told_171 hd v1 v2 0 h _ (fun v4_37 z38 => ?_) fuel0 0 0  
              refine y_iload (q := 208) rfl rfl rfl ?_
              exact y_retI rfl (by decide) rfl rfl
      · skip
        refine y_iload_n (q := 64) rfl rfl rfl ?_
        refine y_ifT (q := 77) rfl (by decide) rfl ?_
        refine y_iload_n (q := 78) rfl rfl rfl ?_
        refine y_iconst (x := 5) (q := 79) rfl (by decide) rfl ?_
        refine y_ge (q := 140) (q' := 82) rfl rfl (by decide) rfl rfl (fun c39 => ?_) (fun c40 => ?_)
        · skip
          refine y_iload_n (q := 83) rfl rfl rfl ?_
          refine y_ne0 (q := 93) (q' := 86) rfl rfl rfl rfl (fun c41 => ?_) (fun c42 => ?_)
          · skip
            refine y_aload_n (q := 87) rfl rfl rfl ?_
            refine y_getI (q := 90) rfl rfl (by decide) atM0 rfl rfl ?_
            refine y_goto (q := 139) rfl rfl ?_
            exact y_retI rfl (by decide) rfl rfl
          · skip
            refine y_iload_n (q := 94) rfl rfl rfl ?_
            refine y_iconst (x := 1) (q := 95) rfl (by decide) rfl ?_
            refine y_ne (q := 105) (q' := 98) rfl rfl (by decide) rfl rfl (fun c43 => ?_) (fun c44 => ?_)
            · skip
              refine y_aload_n (q := 99) rfl rfl rfl ?_
              refine y_getI (q := 102) rfl rfl (by decide) atM0 rfl rfl ?_
              refine y_goto (q := 139) rfl rfl ?_
              exact y_retI rfl (by decide) rfl rfl
            · skip
              refine y_iload_n (q := 106) rfl rfl rfl ?_
              refine y_iconst (x := 2) (q := 107) rfl (by decide) rfl ?_
              refine y_ne (q := 119) (q' := 110) rfl rfl (by decide) rfl rfl (fun c45 => ?_) (fun c46 => ?_)
              · skip
                refine y_aload_n (q := 111) rfl rfl rfl ?_
                refine y_getR (b := 5) (q := 114) rfl rfl (by decide) atM0 rfl rfl ?_
                refine y_iload_n (q := 115) rfl rfl rfl ?_
                refine y_guard (fun c47 => ?_)
                refine y_iald (n := 8) (N := 8) (X := v1.toInt) (K := v1.toInt.toNat) (q := 116) hbM rfl atM5 rfl rfl c47 rfl rfl ?_
                refine y_goto (q := 139) rfl rfl ?_
                exact y_retI rfl (by decide) rfl rfl
              · skip
                refine y_iload_n (q := 120) rfl rfl rfl ?_
                refine y_iconst (x := 3) (q := 121) rfl (by decide) rfl ?_
                refine y_ne (q := 133) (q' := 124) rfl rfl (by decide) rfl rfl (fun c48 => ?_) (fun c49 => ?_)
                · skip
                  refine y_aload_n (q := 125) rfl rfl rfl ?_
                  refine y_getR (b := 6) (q := 128) rfl rfl (by decide) atM0 rfl rfl ?_
                  refine y_iload_n (q := 129) rfl rfl rfl ?_
                  refine y_guard (fun c50 => ?_)
                  refine y_iald (n := 8) (N := 8) (X := v1.toInt) (K := v1.toInt.toNat) (q := 130) hbM rfl atM6 rfl rfl c50 rfl rfl ?_
                  refine y_goto (q := 139) rfl rfl ?_
                  exact y_retI rfl (by decide) rfl rfl
                · skip
                  refine y_aload_n (q := 134) rfl rfl rfl ?_
                  refine y_getR (b := 4) (q := 137) rfl rfl (by decide) atM0 rfl rfl ?_
                  refine y_iload_n (q := 138) rfl rfl rfl ?_
                  refine y_guard (fun c51 => ?_)
                  refine y_iald (n := 8) (N := 8) (X := v1.toInt) (K := v1.toInt.toNat) (q := 139) hbM rfl atM4 rfl rfl c51 rfl rfl ?_
                  exact y_retI rfl (by decide) rfl rfl
        · skip
          refine y_iload_n (q := 141) rfl rfl rfl ?_
          refine y_iconst (x := 5) (q := 142) rfl (by decide) rfl ?_
          refine y_le (q := 165) (q' := 145) rfl rfl (by decide) rfl rfl (fun c52 => ?_) (fun c53 => ?_)
          · skip
            refine y_iload_n (q := 146) rfl rfl rfl ?_
            refine y_bipush (x := 6) (q := 148) rfl (by decide) rfl ?_
            refine y_ne (q := 159) (q' := 151) rfl rfl (by decide) rfl rfl (fun c54 => ?_) (fun c55 => ?_)
            · skip
              refine y_aload_n (q := 152) rfl rfl rfl ?_
              refine y_iload_n (q := 153) rfl rfl rfl ?_
              refine y_callP (I := .invokevirtual 148) (idx := 148) (KD := 1) (J := 142) (mj := mj132) (as := [.ref 0, .int v1]) (r := []) (q := 156) rfl (fun _ _ _ _ _ _ => rfl) rfl (by decide) rfl rfl rfl rfl rfl (Nat.le_of_ble_eq_true rfl) (d_recv atM0 (by decide) (by decide)) rfl (m_X7_seatsOf (Nat.le_trans (by decide) hd) v1 h) (fun r56 => ?_)
              refine y_goto (q := 164) rfl rfl ?_
              exact y_retI rfl (by decide) rfl rfl
            · skip
              refine y_aload_n (q := 160) rfl rfl rfl ?_
              refine y_iload_n (q := 161) rfl rfl rfl ?_
              refine y_callI (I := .invokevirtual 152) (idx := 152) (KD := 1) (J := 196) (mj := mj186) (as := [.ref 0, .int v1]) (r := []) (q := 164) rfl (fun _ _ _ _ _ _ => rfl) rfl (by decide) rfl rfl rfl rfl rfl (Nat.le_of_ble_eq_true rfl) (d_recv atM0 (by decide) (by decide)) rfl (m_X7_soundsOf (Nat.le_trans (by decide) hd) v1 h) (fun r57 g58 => ?_)
              exact y_retI rfl (by decide) rfl rfl
          · skip
            refine y_iconst (x := 0) (q := 166) rfl (by decide) rfl ?_
            refine y_istore (lo' := [some (.ref 0), some (.int v1), some (.int v2), some (.int 0), some (.int 0), none]) (q := 168) rfl (Nat.le_of_ble_eq_true rfl) rfl rfl ?_
            refine y_iconst (x := 0) (q := 169) rfl (by decide) rfl ?_
            refine y_istore (lo' := [some (.ref 0), some (.int v1), some (.int v2), some (.int 0), some (.int 0), some (.int 0)]) (q := 171) rfl (Nat.le_of_ble_eq_true rfl) rfl rfl ?_
            refine lz_X7_told_171 hd v1 v2 0 h _ (fun v4_59 z60 => ?_) fuel0 0 0  
            refine y_iload (q := 208) rfl rfl rfl ?_
            exact y_retI rfl (by decide) rfl rfl
  · skip
    refine y_aload_n (q := 15) rfl rfl rfl ?_
    refine y_iload_n (q := 16) rfl rfl rfl ?_
    refine y_bipush (x := 10) (q := 18) rfl (by decide) rfl ?_
    refine y_isub (q := 19) rfl rfl ?_
    refine y_callP (I := .invokevirtual 105) (idx := 105) (KD := 1) (J := 132) (mj := mj122) (as := [.ref 0, .int (v2 - 10)]) (r := []) (q := 22) rfl (fun _ _ _ _ _ _ => rfl) rfl (by decide) rfl rfl rfl rfl rfl (Nat.le_of_ble_eq_true rfl) (d_recv atM0 (by decide) (by decide)) rfl (m_X7_isHouse (Nat.le_trans (by decide) hd) (v2 - 10) h) (fun r61 => ?_)
    refine y_eq0 (q := 29) (q' := 25) rfl rfl rfl rfl (fun c62 => ?_) (fun c63 => ?_)
    · skip
      refine y_iconst (x := 0) (q := 30) rfl (by decide) rfl ?_
      refine y_istore_n (lo' := [some (.ref 0), some (.int v1), some (.int v2), some (.int 0), none, none]) (q := 31) rfl (Nat.le_of_ble_eq_true rfl) rfl rfl ?_
      refine y_iload_n (q := 32) rfl rfl rfl ?_
      refine y_i2l (q := 33) rfl rfl ?_
      refine y_lconst (u := 0) (q := 34) rfl (by decide) rfl ?_
      refine y_ldc2_w (u := 7) (q := 37) rfl rfl rfl ?_
      refine y_callP (I := .invokestatic 91) (idx := 91) (KD := 0) (J := 128) (mj := mj118) (as := [.long v2.toInt64, .long 0, .long 7]) (r := []) (q := 40) rfl (fun _ _ _ _ _ _ => rfl) rfl (by decide) rfl rfl rfl rfl rfl (Nat.le_of_ble_eq_true rfl) rfl rfl (m_X7_in (Nat.le_trans (by decide) hd) (v2.toInt64) 0 7 h) (fun r64 => ?_)
      refine y_ne0 (q := 47) (q' := 43) rfl rfl rfl rfl (fun c65 => ?_) (fun c66 => ?_)
      · skip
        refine y_iload_n (q := 44) rfl rfl rfl ?_
        refine y_ifT (q := 60) rfl (by decide) rfl ?_
        refine y_bipush (x := (-2)) (q := 62) rfl (by decide) rfl ?_
        exact y_retI rfl (by decide) rfl rfl
      · skip
        refine y_iload_n (q := 48) rfl rfl rfl ?_
        refine y_iconst (x := 1) (q := 49) rfl (by decide) rfl ?_
        refine y_le (q := 63) (q' := 52) rfl rfl (by decide) rfl rfl (fun c67 => ?_) (fun c68 => ?_)
        · skip
          refine y_aload_n (q := 53) rfl rfl rfl ?_
          refine y_iload_n (q := 54) rfl rfl rfl ?_
          refine y_callP (I := .invokevirtual 105) (idx := 105) (KD := 1) (J := 132) (mj := mj122) (as := [.ref 0, .int v1]) (r := []) (q := 57) rfl (fun _ _ _ _ _ _ => rfl) rfl (by decide) rfl rfl rfl rfl rfl (Nat.le_of_ble_eq_true rfl) (d_recv atM0 (by decide) (by decide)) rfl (m_X7_isHouse (Nat.le_trans (by decide) hd) v1 h) (fun r69 => ?_)
          refine y_ne0 (q := 63) (q' := 60) rfl rfl rfl rfl (fun c70 => ?_) (fun c71 => ?_)
          · skip
            refine y_bipush (x := (-2)) (q := 62) rfl (by decide) rfl ?_
            exact y_retI rfl (by decide) rfl rfl
          · skip
            refine y_iload_n (q := 64) rfl rfl rfl ?_
            refine y_ifT (q := 77) rfl (by decide) rfl ?_
            refine y_iload_n (q := 78) rfl rfl rfl ?_
            refine y_iconst (x := 5) (q := 79) rfl (by decide) rfl ?_
            refine y_ge (q := 140) (q' := 82) rfl rfl (by decide) rfl rfl (fun c72 => ?_) (fun c73 => ?_)
            · skip
              refine y_iload_n (q := 83) rfl rfl rfl ?_
              refine y_ne0 (q := 93) (q' := 86) rfl rfl rfl rfl (fun c74 => ?_) (fun c75 => ?_)
              · skip
                refine y_aload_n (q := 87) rfl rfl rfl ?_
                refine y_getI (q := 90) rfl rfl (by decide) atM0 rfl rfl ?_
                refine y_goto (q := 139) rfl rfl ?_
                exact y_retI rfl (by decide) rfl rfl
              · skip
                refine y_iload_n (q := 94) rfl rfl rfl ?_
                refine y_iconst (x := 1) (q := 95) rfl (by decide) rfl ?_
                refine y_ne (q := 105) (q' := 98) rfl rfl (by decide) rfl rfl (fun c76 => ?_) (fun c77 => ?_)
                · skip
                  refine y_aload_n (q := 99) rfl rfl rfl ?_
                  refine y_getI (q := 102) rfl rfl (by decide) atM0 rfl rfl ?_
                  refine y_goto (q := 139) rfl rfl ?_
                  exact y_retI rfl (by decide) rfl rfl
                · skip
                  refine y_iload_n (q := 106) rfl rfl rfl ?_
                  refine y_iconst (x := 2) (q := 107) rfl (by decide) rfl ?_
                  refine y_ne (q := 119) (q' := 110) rfl rfl (by decide) rfl rfl (fun c78 => ?_) (fun c79 => ?_)
                  · skip
                    refine y_aload_n (q := 111) rfl rfl rfl ?_
                    refine y_getR (b := 5) (q := 114) rfl rfl (by decide) atM0 rfl rfl ?_
                    refine y_iload_n (q := 115) rfl rfl rfl ?_
                    refine y_guard (fun c80 => ?_)
                    refine y_iald (n := 8) (N := 8) (X := v1.toInt) (K := v1.toInt.toNat) (q := 116) hbM rfl atM5 rfl rfl c80 rfl rfl ?_
                    refine y_goto (q := 139) rfl rfl ?_
                    exact y_retI rfl (by decide) rfl rfl
                  · skip
                    refine y_iload_n (q := 120) rfl rfl rfl ?_
                    refine y_iconst (x := 3) (q := 121) rfl (by decide) rfl ?_
                    refine y_ne (q := 133) (q' := 124) rfl rfl (by decide) rfl rfl (fun c81 => ?_) (fun c82 => ?_)
                    · skip
                      refine y_aload_n (q := 125) rfl rfl rfl ?_
                      refine y_getR (b := 6) (q := 128) rfl rfl (by decide) atM0 rfl rfl ?_
                      refine y_iload_n (q := 129) rfl rfl rfl ?_
                      refine y_guard (fun c83 => ?_)
                      refine y_iald (n := 8) (N := 8) (X := v1.toInt) (K := v1.toInt.toNat) (q := 130) hbM rfl atM6 rfl rfl c83 rfl rfl ?_
                      refine y_goto (q := 139) rfl rfl ?_
                      exact y_retI rfl (by decide) rfl rfl
                    · skip
                      refine y_aload_n (q := 134) rfl rfl rfl ?_
                      refine y_getR (b := 4) (q := 137) rfl rfl (by decide) atM0 rfl rfl ?_
                      refine y_iload_n (q := 138) rfl rfl rfl ?_
                      refine y_guard (fun c84 => ?_)
                      refine y_iald (n := 8) (N := 8) (X := v1.toInt) (K := v1.toInt.toNat) (q := 139) hbM rfl atM4 rfl rfl c84 rfl rfl ?_
                      exact y_retI rfl (by decide) rfl rfl
            · skip
              refine y_iload_n (q := 141) rfl rfl rfl ?_
              refine y_iconst (x := 5) (q := 142) rfl (by decide) rfl ?_
              refine y_le (q := 165) (q' := 145) rfl rfl (by decide) rfl rfl (fun c85 => ?_) (fun c86 => ?_)
              · skip
                refine y_iload_n (q := 146) rfl rfl rfl ?_
                refine y_bipush (x := 6) (q := 148) rfl (by decide) rfl ?_
                refine y_ne (q := 159) (q' := 151) rfl rfl (by decide) rfl rfl (fun c87 => ?_) (fun c88 => ?_)
                · skip
                  refine y_aload_n (q := 152) rfl rfl rfl ?_
                  refine y_iload_n (q := 153) rfl rfl rfl ?_
                  refine y_callP (I := .invokevirtual 148) (idx := 148) (KD := 1) (J := 142) (mj := mj132) (as := [.ref 0, .int v1]) (r := []) (q := 156) rfl (fun _ _ _ _ _ _ => rfl) rfl (by decide) rfl rfl rfl rfl rfl (Nat.le_of_ble_eq_true rfl) (d_recv atM0 (by decide) (by decide)) rfl (m_X7_seatsOf (Nat.le_trans (by decide) hd) v1 h) (fun r89 => ?_)
                  refine y_goto (q := 164) rfl rfl ?_
                  exact y_retI rfl (by decide) rfl rfl
                · skip
                  refine y_aload_n (q := 160) rfl rfl rfl ?_
                  refine y_iload_n (q := 161) rfl rfl rfl ?_
                  refine y_callI (I := .invokevirtual 152) (idx := 152) (KD := 1) (J := 196) (mj := mj186) (as := [.ref 0, .int v1]) (r := []) (q := 164) rfl (fun _ _ _ _ _ _ => rfl) rfl (by decide) rfl rfl rfl rfl rfl (Nat.le_of_ble_eq_true rfl) (d_recv atM0 (by decide) (by decide)) rfl (m_X7_soundsOf (Nat.le_trans (by decide) hd) v1 h) (fun r90 g91 => ?_)
                  exact y_retI rfl (by decide) rfl rfl
              · skip
                refine y_iconst (x := 0) (q := 166) rfl (by decide) rfl ?_
                refine y_istore (lo' := [some (.ref 0), some (.int v1), some (.int v2), some (.int 0), some (.int 0), none]) (q := 168) rfl (Nat.le_of_ble_eq_true rfl) rfl rfl ?_
                refine y_iconst (x := 0) (q := 169) rfl (by decide) rfl ?_
                refine y_istore (lo' := [some (.ref 0), some (.int v1), some (.int v2), some (.int 0), some (.int 0), some (.int 0)]) (q := 171) rfl (Nat.le_of_ble_eq_true rfl) rfl rfl ?_
                refine lz_X7_told_171 hd v1 v2 0 h _ (fun v4_92 z93 => ?_) fuel0 0 0  
                refine y_iload (q := 208) rfl rfl rfl ?_
                exact y_retI rfl (by decide) rfl rfl
        · skip
          refine y_iload_n (q := 64) rfl rfl rfl ?_
          refine y_ifT (q := 77) rfl (by decide) rfl ?_
          refine y_iload_n (q := 78) rfl rfl rfl ?_
          refine y_iconst (x := 5) (q := 79) rfl (by decide) rfl ?_
          refine y_ge (q := 140) (q' := 82) rfl rfl (by decide) rfl rfl (fun c94 => ?_) (fun c95 => ?_)
          · skip
            refine y_iload_n (q := 83) rfl rfl rfl ?_
            refine y_ne0 (q := 93) (q' := 86) rfl rfl rfl rfl (fun c96 => ?_) (fun c97 => ?_)
            · skip
              refine y_aload_n (q := 87) rfl rfl rfl ?_
              refine y_getI (q := 90) rfl rfl (by decide) atM0 rfl rfl ?_
              refine y_goto (q := 139) rfl rfl ?_
              exact y_retI rfl (by decide) rfl rfl
            · skip
              refine y_iload_n (q := 94) rfl rfl rfl ?_
              refine y_iconst (x := 1) (q := 95) rfl (by decide) rfl ?_
              refine y_ne (q := 105) (q' := 98) rfl rfl (by decide) rfl rfl (fun c98 => ?_) (fun c99 => ?_)
              · skip
                refine y_aload_n (q := 99) rfl rfl rfl ?_
                refine y_getI (q := 102) rfl rfl (by decide) atM0 rfl rfl ?_
                refine y_goto (q := 139) rfl rfl ?_
                exact y_retI rfl (by decide) rfl rfl
              · skip
                refine y_iload_n (q := 106) rfl rfl rfl ?_
                refine y_iconst (x := 2) (q := 107) rfl (by decide) rfl ?_
                refine y_ne (q := 119) (q' := 110) rfl rfl (by decide) rfl rfl (fun c100 => ?_) (fun c101 => ?_)
                · skip
                  refine y_aload_n (q := 111) rfl rfl rfl ?_
                  refine y_getR (b := 5) (q := 114) rfl rfl (by decide) atM0 rfl rfl ?_
                  refine y_iload_n (q := 115) rfl rfl rfl ?_
                  refine y_guard (fun c102 => ?_)
                  refine y_iald (n := 8) (N := 8) (X := v1.toInt) (K := v1.toInt.toNat) (q := 116) hbM rfl atM5 rfl rfl c102 rfl rfl ?_
                  refine y_goto (q := 139) rfl rfl ?_
                  exact y_retI rfl (by decide) rfl rfl
                · skip
                  refine y_iload_n (q := 120) rfl rfl rfl ?_
                  refine y_iconst (x := 3) (q := 121) rfl (by decide) rfl ?_
                  refine y_ne (q := 133) (q' := 124) rfl rfl (by decide) rfl rfl (fun c103 => ?_) (fun c104 => ?_)
                  · skip
                    refine y_aload_n (q := 125) rfl rfl rfl ?_
                    refine y_getR (b := 6) (q := 128) rfl rfl (by decide) atM0 rfl rfl ?_
                    refine y_iload_n (q := 129) rfl rfl rfl ?_
                    refine y_guard (fun c105 => ?_)
                    refine y_iald (n := 8) (N := 8) (X := v1.toInt) (K := v1.toInt.toNat) (q := 130) hbM rfl atM6 rfl rfl c105 rfl rfl ?_
                    refine y_goto (q := 139) rfl rfl ?_
                    exact y_retI rfl (by decide) rfl rfl
                  · skip
                    refine y_aload_n (q := 134) rfl rfl rfl ?_
                    refine y_getR (b := 4) (q := 137) rfl rfl (by decide) atM0 rfl rfl ?_
                    refine y_iload_n (q := 138) rfl rfl rfl ?_
                    refine y_guard (fun c106 => ?_)
                    refine y_iald (n := 8) (N := 8) (X := v1.toInt) (K := v1.toInt.toNat) (q := 139) hbM rfl atM4 rfl rfl c106 rfl rfl ?_
                    exact y_retI rfl (by decide) rfl rfl
          · skip
            refine y_iload_n (q := 141) rfl rfl rfl ?_
            refine y_iconst (x := 5) (q := 142) rfl (by decide) rfl ?_
            refine y_le (q := 165) (q' := 145) rfl rfl (by decide) rfl rfl (fun c107 => ?_) (fun c108 => ?_)
            · skip
              refine y_iload_n (q := 146) rfl rfl rfl ?_
              refine y_bipush (x := 6) (q := 148) rfl (by decide) rfl ?_
              refine y_ne (q := 159) (q' := 151) rfl rfl (by decide) rfl rfl (fun c109 => ?_) (fun c110 => ?_)
              · skip
                refine y_aload_n (q := 152) rfl rfl rfl ?_
                refine y_iload_n (q := 153) rfl rfl rfl ?_
                refine y_callP (I := .invokevirtual 148) (idx := 148) (KD := 1) (J := 142) (mj := mj132) (as := [.ref 0, .int v1]) (r := []) (q := 156) rfl (fun _ _ _ _ _ _ => rfl) rfl (by decide) rfl rfl rfl rfl rfl (Nat.le_of_ble_eq_true rfl) (d_recv atM0 (by decide) (by decide)) rfl (m_X7_seatsOf (Nat.le_trans (by decide) hd) v1 h) (fun r111 => ?_)
                refine y_goto (q := 164) rfl rfl ?_
                exact y_retI rfl (by decide) rfl rfl
              · skip
                refine y_aload_n (q := 160) rfl rfl rfl ?_
                refine y_iload_n (q := 161) rfl rfl rfl ?_
                refine y_callI (I := .invokevirtual 152) (idx := 152) (KD := 1) (J := 196) (mj := mj186) (as := [.ref 0, .int v1]) (r := []) (q := 164) rfl (fun _ _ _ _ _ _ => rfl) rfl (by decide) rfl rfl rfl rfl rfl (Nat.le_of_ble_eq_true rfl) (d_recv atM0 (by decide) (by decide)) rfl (m_X7_soundsOf (Nat.le_trans (by decide) hd) v1 h) (fun r112 g113 => ?_)
                exact y_retI rfl (by decide) rfl rfl
            · skip
              refine y_iconst (x := 0) (q := 166) rfl (by decide) rfl ?_
              refine y_istore (lo' := [some (.ref 0), some (.int v1), some (.int v2), some (.int 0), some (.int 0), none]) (q := 168) rfl (Nat.le_of_ble_eq_true rfl) rfl rfl ?_
              refine y_iconst (x := 0) (q := 169) rfl (by decide) rfl ?_
              refine y_istore (lo' := [some (.ref 0), some (.int v1), some (.int v2), some (.int 0), some (.int 0), some (.int 0)]) (q := 171) rfl (Nat.le_of_ble_eq_true rfl) rfl rfl ?_
              refine lz_X7_told_171 hd v1 v2 0 h _ (fun v4_114 z115 => ?_) fuel0 0 0  
              refine y_iload (q := 208) rfl rfl rfl ?_
              exact y_retI rfl (by decide) rfl rfl
    · skip
      refine y_iconst (x := 1) (q := 26) rfl (by decide) rfl ?_
      refine y_goto (q := 30) rfl rfl ?_
      refine y_istore_n (lo' := [some (.ref 0), some (.int v1), some (.int v2), some (.int 1), none, none]) (q := 31) rfl (Nat.le_of_ble_eq_true rfl) rfl rfl ?_
      refine y_iload_n (q := 32) rfl rfl rfl ?_
      refine y_i2l (q := 33) rfl rfl ?_
      refine y_lconst (u := 0) (q := 34) rfl (by decide) rfl ?_
      refine y_ldc2_w (u := 7) (q := 37) rfl rfl rfl ?_
      refine y_callP (I := .invokestatic 91) (idx := 91) (KD := 0) (J := 128) (mj := mj118) (as := [.long v2.toInt64, .long 0, .long 7]) (r := []) (q := 40) rfl (fun _ _ _ _ _ _ => rfl) rfl (by decide) rfl rfl rfl rfl rfl (Nat.le_of_ble_eq_true rfl) rfl rfl (m_X7_in (Nat.le_trans (by decide) hd) (v2.toInt64) 0 7 h) (fun r116 => ?_)
      refine y_ne0 (q := 47) (q' := 43) rfl rfl rfl rfl (fun c117 => ?_) (fun c118 => ?_)
      · skip
        refine y_iload_n (q := 44) rfl rfl rfl ?_
        refine y_ifF (q := 47) rfl (by decide) rfl rfl ?_
        refine y_iload_n (q := 48) rfl rfl rfl ?_
        refine y_iconst (x := 1) (q := 49) rfl (by decide) rfl ?_
        refine y_le (q := 63) (q' := 52) rfl rfl (by decide) rfl rfl (fun c119 => ?_) (fun c120 => ?_)
        · skip
          refine y_aload_n (q := 53) rfl rfl rfl ?_
          refine y_iload_n (q := 54) rfl rfl rfl ?_
          refine y_callP (I := .invokevirtual 105) (idx := 105) (KD := 1) (J := 132) (mj := mj122) (as := [.ref 0, .int v1]) (r := []) (q := 57) rfl (fun _ _ _ _ _ _ => rfl) rfl (by decide) rfl rfl rfl rfl rfl (Nat.le_of_ble_eq_true rfl) (d_recv atM0 (by decide) (by decide)) rfl (m_X7_isHouse (Nat.le_trans (by decide) hd) v1 h) (fun r121 => ?_)
          refine y_ne0 (q := 63) (q' := 60) rfl rfl rfl rfl (fun c122 => ?_) (fun c123 => ?_)
          · skip
            refine y_bipush (x := (-2)) (q := 62) rfl (by decide) rfl ?_
            exact y_retI rfl (by decide) rfl rfl
          · skip
            refine y_iload_n (q := 64) rfl rfl rfl ?_
            refine y_ifF (q := 67) rfl (by decide) rfl rfl ?_
            refine y_aload_n (q := 68) rfl rfl rfl ?_
            refine y_iload_n (q := 69) rfl rfl rfl ?_
            refine y_iload_n (q := 70) rfl rfl rfl ?_
            refine y_bipush (x := 10) (q := 72) rfl (by decide) rfl ?_
            refine y_isub (q := 73) rfl rfl ?_
            refine y_callP (I := .invokevirtual 139) (idx := 139) (KD := 1) (J := 136) (mj := mj126) (as := [.ref 0, .int v1, .int (v2 - 10)]) (r := []) (q := 76) rfl (fun _ _ _ _ _ _ => rfl) rfl (by decide) rfl rfl rfl rfl rfl (Nat.le_of_ble_eq_true rfl) (d_recv atM0 (by decide) (by decide)) rfl (m_X7_strengthOf (Nat.le_trans (by decide) hd) v1 (v2 - 10) h) (fun r124 => ?_)
            exact y_retI rfl (by decide) rfl rfl
        · skip
          refine y_iload_n (q := 64) rfl rfl rfl ?_
          refine y_ifF (q := 67) rfl (by decide) rfl rfl ?_
          refine y_aload_n (q := 68) rfl rfl rfl ?_
          refine y_iload_n (q := 69) rfl rfl rfl ?_
          refine y_iload_n (q := 70) rfl rfl rfl ?_
          refine y_bipush (x := 10) (q := 72) rfl (by decide) rfl ?_
          refine y_isub (q := 73) rfl rfl ?_
          refine y_callP (I := .invokevirtual 139) (idx := 139) (KD := 1) (J := 136) (mj := mj126) (as := [.ref 0, .int v1, .int (v2 - 10)]) (r := []) (q := 76) rfl (fun _ _ _ _ _ _ => rfl) rfl (by decide) rfl rfl rfl rfl rfl (Nat.le_of_ble_eq_true rfl) (d_recv atM0 (by decide) (by decide)) rfl (m_X7_strengthOf (Nat.le_trans (by decide) hd) v1 (v2 - 10) h) (fun r125 => ?_)
          exact y_retI rfl (by decide) rfl rfl
      · skip
        refine y_iload_n (q := 48) rfl rfl rfl ?_
        refine y_iconst (x := 1) (q := 49) rfl (by decide) rfl ?_
        refine y_le (q := 63) (q' := 52) rfl rfl (by decide) rfl rfl (fun c126 => ?_) (fun c127 => ?_)
        · skip
          refine y_aload_n (q := 53) rfl rfl rfl ?_
          refine y_iload_n (q := 54) rfl rfl rfl ?_
          refine y_callP (I := .invokevirtual 105) (idx := 105) (KD := 1) (J := 132) (mj := mj122) (as := [.ref 0, .int v1]) (r := []) (q := 57) rfl (fun _ _ _ _ _ _ => rfl) rfl (by decide) rfl rfl rfl rfl rfl (Nat.le_of_ble_eq_true rfl) (d_recv atM0 (by decide) (by decide)) rfl (m_X7_isHouse (Nat.le_trans (by decide) hd) v1 h) (fun r128 => ?_)
          refine y_ne0 (q := 63) (q' := 60) rfl rfl rfl rfl (fun c129 => ?_) (fun c130 => ?_)
          · skip
            refine y_bipush (x := (-2)) (q := 62) rfl (by decide) rfl ?_
            exact y_retI rfl (by decide) rfl rfl
          · skip
            refine y_iload_n (q := 64) rfl rfl rfl ?_
            refine y_ifF (q := 67) rfl (by decide) rfl rfl ?_
            refine y_aload_n (q := 68) rfl rfl rfl ?_
            refine y_iload_n (q := 69) rfl rfl rfl ?_
            refine y_iload_n (q := 70) rfl rfl rfl ?_
            refine y_bipush (x := 10) (q := 72) rfl (by decide) rfl ?_
            refine y_isub (q := 73) rfl rfl ?_
            refine y_callP (I := .invokevirtual 139) (idx := 139) (KD := 1) (J := 136) (mj := mj126) (as := [.ref 0, .int v1, .int (v2 - 10)]) (r := []) (q := 76) rfl (fun _ _ _ _ _ _ => rfl) rfl (by decide) rfl rfl rfl rfl rfl (Nat.le_of_ble_eq_true rfl) (d_recv atM0 (by decide) (by decide)) rfl (m_X7_strengthOf (Nat.le_trans (by decide) hd) v1 (v2 - 10) h) (fun r131 => ?_)
            exact y_retI rfl (by decide) rfl rfl
        · skip
          refine y_iload_n (q := 64) rfl rfl rfl ?_
          refine y_ifF (q := 67) rfl (by decide) rfl rfl ?_
          refine y_aload_n (q := 68) rfl rfl rfl ?_
          refine y_iload_n (q := 69) rfl rfl rfl ?_
          refine y_iload_n (q := 70) rfl rfl rfl ?_
          refine y_bipush (x := 10) (q := 72) rfl (by decide) rfl ?_
          refine y_isub (q := 73) rfl rfl ?_
          refine y_callP (I := .invokevirtual 139) (idx := 139) (KD := 1) (J := 136) (mj := mj126) (as := [.ref 0, .int v1, .int (v2 - 10)]) (r := []) (q := 76) rfl (fun _ _ _ _ _ _ => rfl) rfl (by decide) rfl rfl rfl rfl rfl (Nat.le_of_ble_eq_true rfl) (d_recv atM0 (by decide) (by decide)) rfl (m_X7_strengthOf (Nat.le_trans (by decide) hd) v1 (v2 - 10) h) (fun r132 => ?_)
          exact y_retI rfl (by decide) rfl rfl
def f_X7_set (v1 : Int32) (v2 : Int32) (v3 : Int32) (h : dH) : Option (Int32 × dH) := oP (f_X7_in (v1.toInt64) 0 3) (fun r1 => if r1.toInt = 0 then (some ((-2), h)) else (if 1 < v1.toInt then (oP (f_X7_isHouse v2 h) (fun r6 => if r6.toInt = 0 then (some ((-2), h)) else (oP (f_X7_isValue v1 v3) (fun r9 => if r9.toInt = 0 then (some ((-2), h)) else (oI (f_X7_told v2 v1 h) (fun r12 g13 => oV (f_X7_lays v1 v2 v3 g13) (fun g14 => some (r12, g14)))))))) else (oP (f_X7_isValue v1 v3) (fun r15 => if r15.toInt = 0 then (some ((-2), h)) else (oI (f_X7_told v2 v1 h) (fun r18 g19 => oV (f_X7_lays v1 v2 v3 g19) (fun g20 => some (r18, g20))))))))
theorem m_X7_set {d : Nat} (hd : 46 ≤ d) (v1 : Int32) (v2 : Int32) (v3 : Int32) (h : dH) : dX shM d 124 [.ref 0, .int v1, .int v2, .int v3] dI (f_X7_set v1 v2 v3 h) h := by
  obtain ⟨e, rfl⟩ : ∃ e, d = e + 1 := ⟨d - 1, by omega⟩
  have hd : 45 ≤ e := by omega
  refine dX_of (mj := mj124) (lo := [some (.ref 0), some (.int v1), some (.int v2), some (.int v3), none]) rfl (Nat.le_of_ble_eq_true rfl) rfl ?_
  unfold f_X7_set
  refine y_iload_n (q := 1) rfl rfl rfl ?_
  refine y_i2l (q := 2) rfl rfl ?_
  refine y_lconst (u := 0) (q := 3) rfl (by decide) rfl ?_
  refine y_ldc2_w (u := 3) (q := 6) rfl rfl rfl ?_
  refine y_callP (I := .invokestatic 91) (idx := 91) (KD := 0) (J := 128) (mj := mj118) (as := [.long v1.toInt64, .long 0, .long 3]) (r := []) (q := 9) rfl (fun _ _ _ _ _ _ => rfl) rfl (by decide) rfl rfl rfl rfl rfl (Nat.le_of_ble_eq_true rfl) rfl rfl (m_X7_in (Nat.le_trans (by decide) hd) (v1.toInt64) 0 3 h) (fun r1 => ?_)
  refine y_eq0 (q := 33) (q' := 12) rfl rfl rfl rfl (fun c2 => ?_) (fun c3 => ?_)
  · skip
    refine y_bipush (x := (-2)) (q := 35) rfl (by decide) rfl ?_
    exact y_retI rfl (by decide) rfl rfl
  · skip
    refine y_iload_n (q := 13) rfl rfl rfl ?_
    refine y_iconst (x := 1) (q := 14) rfl (by decide) rfl ?_
    refine y_le (q := 25) (q' := 17) rfl rfl (by decide) rfl rfl (fun c4 => ?_) (fun c5 => ?_)
    · skip
      refine y_aload_n (q := 18) rfl rfl rfl ?_
      refine y_iload_n (q := 19) rfl rfl rfl ?_
      refine y_callP (I := .invokevirtual 105) (idx := 105) (KD := 1) (J := 132) (mj := mj122) (as := [.ref 0, .int v2]) (r := []) (q := 22) rfl (fun _ _ _ _ _ _ => rfl) rfl (by decide) rfl rfl rfl rfl rfl (Nat.le_of_ble_eq_true rfl) (d_recv atM0 (by decide) (by decide)) rfl (m_X7_isHouse (Nat.le_trans (by decide) hd) v2 h) (fun r6 => ?_)
      refine y_eq0 (q := 33) (q' := 25) rfl rfl rfl rfl (fun c7 => ?_) (fun c8 => ?_)
      · skip
        refine y_bipush (x := (-2)) (q := 35) rfl (by decide) rfl ?_
        exact y_retI rfl (by decide) rfl rfl
      · skip
        refine y_iload_n (q := 26) rfl rfl rfl ?_
        refine y_iload_n (q := 27) rfl rfl rfl ?_
        refine y_callP (I := .invokestatic 109) (idx := 109) (KD := 0) (J := 133) (mj := mj123) (as := [.int v1, .int v3]) (r := []) (q := 30) rfl (fun _ _ _ _ _ _ => rfl) rfl (by decide) rfl rfl rfl rfl rfl (Nat.le_of_ble_eq_true rfl) rfl rfl (m_X7_isValue (Nat.le_trans (by decide) hd) v1 v3 h) (fun r9 => ?_)
        refine y_ne0 (q := 36) (q' := 33) rfl rfl rfl rfl (fun c10 => ?_) (fun c11 => ?_)
        · skip
          refine y_bipush (x := (-2)) (q := 35) rfl (by decide) rfl ?_
          exact y_retI rfl (by decide) rfl rfl
        · skip
          refine y_aload_n (q := 37) rfl rfl rfl ?_
          refine y_iload_n (q := 38) rfl rfl rfl ?_
          refine y_iload_n (q := 39) rfl rfl rfl ?_
          refine y_callI (I := .invokevirtual 113) (idx := 113) (KD := 1) (J := 141) (mj := mj131) (as := [.ref 0, .int v2, .int v1]) (r := []) (q := 42) rfl (fun _ _ _ _ _ _ => rfl) rfl (by decide) rfl rfl rfl rfl rfl (Nat.le_of_ble_eq_true rfl) (d_recv atM0 (by decide) (by decide)) rfl (m_X7_told (Nat.le_trans (by decide) hd) v2 v1 h) (fun r12 g13 => ?_)
          refine y_istore (lo' := [some (.ref 0), some (.int v1), some (.int v2), some (.int v3), some (.int r12)]) (q := 44) rfl (Nat.le_of_ble_eq_true rfl) rfl rfl ?_
          refine y_aload_n (q := 45) rfl rfl rfl ?_
          refine y_iload_n (q := 46) rfl rfl rfl ?_
          refine y_iload_n (q := 47) rfl rfl rfl ?_
          refine y_iload_n (q := 48) rfl rfl rfl ?_
          refine y_callV (I := .invokevirtual 117) (idx := 117) (KD := 1) (J := 135) (mj := mj125) (as := [.ref 0, .int v1, .int v2, .int v3]) (r := []) (q := 51) rfl (fun _ _ _ _ _ _ => rfl) rfl (by decide) rfl rfl rfl rfl rfl (Nat.le_of_ble_eq_true rfl) (d_recv atM0 (by decide) (by decide)) rfl (m_X7_lays (Nat.le_trans (by decide) hd) v1 v2 v3 g13) (fun g14 => ?_)
          refine y_iload (q := 53) rfl rfl rfl ?_
          exact y_retI rfl (by decide) rfl rfl
    · skip
      refine y_iload_n (q := 26) rfl rfl rfl ?_
      refine y_iload_n (q := 27) rfl rfl rfl ?_
      refine y_callP (I := .invokestatic 109) (idx := 109) (KD := 0) (J := 133) (mj := mj123) (as := [.int v1, .int v3]) (r := []) (q := 30) rfl (fun _ _ _ _ _ _ => rfl) rfl (by decide) rfl rfl rfl rfl rfl (Nat.le_of_ble_eq_true rfl) rfl rfl (m_X7_isValue (Nat.le_trans (by decide) hd) v1 v3 h) (fun r15 => ?_)
      refine y_ne0 (q := 36) (q' := 33) rfl rfl rfl rfl (fun c16 => ?_) (fun c17 => ?_)
      · skip
        refine y_bipush (x := (-2)) (q := 35) rfl (by decide) rfl ?_
        exact y_retI rfl (by decide) rfl rfl
      · skip
        refine y_aload_n (q := 37) rfl rfl rfl ?_
        refine y_iload_n (q := 38) rfl rfl rfl ?_
        refine y_iload_n (q := 39) rfl rfl rfl ?_
        refine y_callI (I := .invokevirtual 113) (idx := 113) (KD := 1) (J := 141) (mj := mj131) (as := [.ref 0, .int v2, .int v1]) (r := []) (q := 42) rfl (fun _ _ _ _ _ _ => rfl) rfl (by decide) rfl rfl rfl rfl rfl (Nat.le_of_ble_eq_true rfl) (d_recv atM0 (by decide) (by decide)) rfl (m_X7_told (Nat.le_trans (by decide) hd) v2 v1 h) (fun r18 g19 => ?_)
        refine y_istore (lo' := [some (.ref 0), some (.int v1), some (.int v2), some (.int v3), some (.int r18)]) (q := 44) rfl (Nat.le_of_ble_eq_true rfl) rfl rfl ?_
        refine y_aload_n (q := 45) rfl rfl rfl ?_
        refine y_iload_n (q := 46) rfl rfl rfl ?_
        refine y_iload_n (q := 47) rfl rfl rfl ?_
        refine y_iload_n (q := 48) rfl rfl rfl ?_
        refine y_callV (I := .invokevirtual 117) (idx := 117) (KD := 1) (J := 135) (mj := mj125) (as := [.ref 0, .int v1, .int v2, .int v3]) (r := []) (q := 51) rfl (fun _ _ _ _ _ _ => rfl) rfl (by decide) rfl rfl rfl rfl rfl (Nat.le_of_ble_eq_true rfl) (d_recv atM0 (by decide) (by decide)) rfl (m_X7_lays (Nat.le_trans (by decide) hd) v1 v2 v3 g19) (fun g20 => ?_)
        refine y_iload (q := 53) rfl rfl rfl ?_
        exact y_retI rfl (by decide) rfl rfl
def f_X7_binds (v1 : Int32) (v2 : Int32) (v3 : Int32) (h : dH) : Option (dH) := oP (f_X7_within v3 0 99) (fun r1 => if 0 ≤ ((8 * v1) + v2).toInt ∧ ((8 * v1) + v2).toInt < 64 then (oH (dU h 7 (((8 * v1) + v2).toInt.toNat) r1) (fun g2 => if 0 ≤ ((8 * v2) + v1).toInt ∧ ((8 * v2) + v1).toInt < 64 then (oH (dU g2 7 (((8 * v2) + v1).toInt.toNat) r1) (fun g4 => some g4)) else none)) else none)
theorem m_X7_binds {d : Nat} (hd : 2 ≤ d) (v1 : Int32) (v2 : Int32) (v3 : Int32) (h : dH) : dX shM d 127 [.ref 0, .int v1, .int v2, .int v3] dV (f_X7_binds v1 v2 v3 h) h := by
  obtain ⟨e, rfl⟩ : ∃ e, d = e + 1 := ⟨d - 1, by omega⟩
  have hd : 1 ≤ e := by omega
  refine dX_of (mj := mj127) (lo := [some (.ref 0), some (.int v1), some (.int v2), some (.int v3), none]) rfl (Nat.le_of_ble_eq_true rfl) rfl ?_
  unfold f_X7_binds
  refine y_iload_n (q := 1) rfl rfl rfl ?_
  refine y_iconst (x := 0) (q := 2) rfl (by decide) rfl ?_
  refine y_bipush (x := 99) (q := 4) rfl (by decide) rfl ?_
  refine y_callP (I := .invokestatic 127) (idx := 127) (KD := 0) (J := 129) (mj := mj119) (as := [.int v3, .int 0, .int 99]) (r := []) (q := 7) rfl (fun _ _ _ _ _ _ => rfl) rfl (by decide) rfl rfl rfl rfl rfl (Nat.le_of_ble_eq_true rfl) rfl rfl (m_X7_within (Nat.le_trans (by decide) hd) v3 0 99 h) (fun r1 => ?_)
  refine y_istore (lo' := [some (.ref 0), some (.int v1), some (.int v2), some (.int v3), some (.int r1)]) (q := 9) rfl (Nat.le_of_ble_eq_true rfl) rfl rfl ?_
  refine y_aload_n (q := 10) rfl rfl rfl ?_
  refine y_getR (b := 7) (q := 13) rfl rfl (by decide) atM0 rfl rfl ?_
  refine y_bipush (x := 8) (q := 15) rfl (by decide) rfl ?_
  refine y_iload_n (q := 16) rfl rfl rfl ?_
  refine y_imul (q := 17) rfl rfl ?_
  refine y_iload_n (q := 18) rfl rfl rfl ?_
  refine y_iadd (q := 19) rfl rfl ?_
  refine y_iload (q := 21) rfl rfl rfl ?_
  refine y_guard (fun c3 => ?_)
  refine y_iast (n := 64) (N := 64) (X := ((8 * v1) + v2).toInt) (K := ((8 * v1) + v2).toInt.toNat) (q := 22) rfl atM7 rfl rfl c3 rfl rfl (fun g2 => ?_)
  refine y_aload_n (q := 23) rfl rfl rfl ?_
  refine y_getR (b := 7) (q := 26) rfl rfl (by decide) atM0 rfl rfl ?_
  refine y_bipush (x := 8) (q := 28) rfl (by decide) rfl ?_
  refine y_iload_n (q := 29) rfl rfl rfl ?_
  refine y_imul (q := 30) rfl rfl ?_
  refine y_iload_n (q := 31) rfl rfl rfl ?_
  refine y_iadd (q := 32) rfl rfl ?_
  refine y_iload (q := 34) rfl rfl rfl ?_
  refine y_guard (fun c5 => ?_)
  refine y_iast (n := 64) (N := 64) (X := ((8 * v2) + v1).toInt) (K := ((8 * v2) + v1).toInt.toNat) (q := 35) rfl atM7 rfl rfl c5 rfl rfl (fun g4 => ?_)
  exact y_retV rfl rfl rfl
def l_X7_house_71  (k : dH → Option (Int32 × dH)) : Nat → Int32 → dH → Option (Int32 × dH)
  | 0, _, _ => none
  | n + 1, v3, h => if v3.toInt < 8 then (oV (f_X7_binds (h 0 13) v3 0 h) (fun g17 => l_X7_house_71  k n (v3 + 1) g17)) else (k  h)
theorem lz_X7_house_71 {d : Nat} (hd : 2 ≤ d) (v1 : Int32) (v2 : Int32) (k : dH → Option (Int32 × dH)) (hk : ∀ (w3 : Int32) (h : dH), dY shM d mj128 dI (k h) 93 [some (.ref 0), some (.int v1), some (.int v2), some (.int w3)] [] h) : ∀ (n : Nat) (v3 : Int32) (h : dH), dY shM d mj128 dI (l_X7_house_71  k n v3 h) 71 [some (.ref 0), some (.int v1), some (.int v2), some (.int v3)] [] h
  | 0, _, _ => dY_none
  | n + 1, v3, h => by
    rw [l_X7_house_71]
    refine y_iload_n (q := 72) rfl rfl rfl ?_
    refine y_bipush (x := 8) (q := 74) rfl (by decide) rfl ?_
    refine y_ge (q := 93) (q' := 77) rfl rfl (by decide) rfl rfl (fun c15 => ?_) (fun c16 => ?_)
    · skip
      refine y_aload_n (q := 78) rfl rfl rfl ?_
      refine y_aload_n (q := 79) rfl rfl rfl ?_
      refine y_getI (q := 82) rfl rfl (by decide) atM0 rfl rfl ?_
      refine y_iload_n (q := 83) rfl rfl rfl ?_
      refine y_iconst (x := 0) (q := 84) rfl (by decide) rfl ?_
      refine y_callV (I := .invokevirtual 133) (idx := 133) (KD := 1) (J := 137) (mj := mj127) (as := [.ref 0, .int (h 0 13), .int v3, .int 0]) (r := []) (q := 87) rfl (fun _ _ _ _ _ _ => rfl) rfl (by decide) rfl rfl rfl rfl rfl (Nat.le_of_ble_eq_true rfl) (d_recv atM0 (by decide) (by decide)) rfl (m_X7_binds (Nat.le_trans (by decide) hd) (h 0 13) v3 0 h) (fun g17 => ?_)
      refine y_iinc (z := (v3 + 1)) (lo' := [some (.ref 0), some (.int v1), some (.int v2), some (.int (v3 + 1))]) (q := 90) rfl rfl (Nat.le_of_ble_eq_true rfl) (by rw [oi_1]) rfl rfl ?_
      refine y_goto (q := 71) rfl rfl ?_
      exact lz_X7_house_71 hd v1 v2 k hk n (v3 + 1) g17 
    · skip
      exact hk  v3 h
def f_X7_house (v1 : Int32) (v2 : Int32) (h : dH) : Option (Int32 × dH) := oP (f_X7_in (v1.toInt64) 0 5) (fun r1 => if r1.toInt = 0 then (some ((-2), h)) else (oP (f_X7_in (v2.toInt64) 0 9) (fun r4 => if r4.toInt = 0 then (some ((-2), h)) else (if (h 0 13).toInt = 8 then (some ((-4), h)) else (if 0 ≤ (h 0 13).toInt ∧ (h 0 13).toInt < 8 then (oH (dU h 4 ((h 0 13).toInt.toNat) v1) (fun g9 => if 0 ≤ (g9 0 13).toInt ∧ (g9 0 13).toInt < 8 then (oH (dU g9 5 ((g9 0 13).toInt.toNat) v2) (fun g11 => if 0 ≤ (g11 0 13).toInt ∧ (g11 0 13).toInt < 8 then (oH (dU g11 6 ((g11 0 13).toInt.toNat) (-1)) (fun g13 => l_X7_house_71   (fun g19 => oH (dU g19 0 13 ((g19 0 13) + 1)) (fun g20 => some (((g20 0 13) - 1), g20))) fuel0 0 g13)) else none)) else none)) else none)))))
theorem m_X7_house {d : Nat} (hd : 3 ≤ d) (v1 : Int32) (v2 : Int32) (h : dH) : dX shM d 128 [.ref 0, .int v1, .int v2] dI (f_X7_house v1 v2 h) h := by
  obtain ⟨e, rfl⟩ : ∃ e, d = e + 1 := ⟨d - 1, by omega⟩
  have hd : 2 ≤ e := by omega
  refine dX_of (mj := mj128) (lo := [some (.ref 0), some (.int v1), some (.int v2), none]) rfl (Nat.le_of_ble_eq_true rfl) rfl ?_
  unfold f_X7_house
  refine y_iload_n (q := 1) rfl rfl rfl ?_
  refine y_i2l (q := 2) rfl rfl ?_
  refine y_lconst (u := 0) (q := 3) rfl (by decide) rfl ?_
  refine y_ldc2_w (u := 5) (q := 6) rfl rfl rfl ?_
  refine y_callP (I := .invokestatic 91) (idx := 91) (KD := 0) (J := 128) (mj := mj118) (as := [.long v1.toInt64, .long 0, .long 5]) (r := []) (q := 9) rfl (fun _ _ _ _ _ _ => rfl) rfl (by decide) rfl rfl rfl rfl rfl (Nat.le_of_ble_eq_true rfl) rfl rfl (m_X7_in (Nat.le_trans (by decide) hd) (v1.toInt64) 0 5 h) (fun r1 => ?_)
  refine y_eq0 (q := 24) (q' := 12) rfl rfl rfl rfl (fun c2 => ?_) (fun c3 => ?_)
  · skip
    refine y_bipush (x := (-2)) (q := 26) rfl (by decide) rfl ?_
    exact y_retI rfl (by decide) rfl rfl
  · skip
    refine y_iload_n (q := 13) rfl rfl rfl ?_
    refine y_i2l (q := 14) rfl rfl ?_
    refine y_lconst (u := 0) (q := 15) rfl (by decide) rfl ?_
    refine y_ldc2_w (u := 9) (q := 18) rfl rfl rfl ?_
    refine y_callP (I := .invokestatic 91) (idx := 91) (KD := 0) (J := 128) (mj := mj118) (as := [.long v2.toInt64, .long 0, .long 9]) (r := []) (q := 21) rfl (fun _ _ _ _ _ _ => rfl) rfl (by decide) rfl rfl rfl rfl rfl (Nat.le_of_ble_eq_true rfl) rfl rfl (m_X7_in (Nat.le_trans (by decide) hd) (v2.toInt64) 0 9 h) (fun r4 => ?_)
    refine y_ne0 (q := 27) (q' := 24) rfl rfl rfl rfl (fun c5 => ?_) (fun c6 => ?_)
    · skip
      refine y_bipush (x := (-2)) (q := 26) rfl (by decide) rfl ?_
      exact y_retI rfl (by decide) rfl rfl
    · skip
      refine y_aload_n (q := 28) rfl rfl rfl ?_
      refine y_getI (q := 31) rfl rfl (by decide) atM0 rfl rfl ?_
      refine y_bipush (x := 8) (q := 33) rfl (by decide) rfl ?_
      refine y_ne (q := 39) (q' := 36) rfl rfl (by decide) rfl rfl (fun c7 => ?_) (fun c8 => ?_)
      · skip
        refine y_bipush (x := (-4)) (q := 38) rfl (by decide) rfl ?_
        exact y_retI rfl (by decide) rfl rfl
      · skip
        refine y_aload_n (q := 40) rfl rfl rfl ?_
        refine y_getR (b := 4) (q := 43) rfl rfl (by decide) atM0 rfl rfl ?_
        refine y_aload_n (q := 44) rfl rfl rfl ?_
        refine y_getI (q := 47) rfl rfl (by decide) atM0 rfl rfl ?_
        refine y_iload_n (q := 48) rfl rfl rfl ?_
        refine y_guard (fun c10 => ?_)
        refine y_iast (n := 8) (N := 8) (X := (h 0 13).toInt) (K := (h 0 13).toInt.toNat) (q := 49) rfl atM4 rfl rfl c10 rfl rfl (fun g9 => ?_)
        refine y_aload_n (q := 50) rfl rfl rfl ?_
        refine y_getR (b := 5) (q := 53) rfl rfl (by decide) atM0 rfl rfl ?_
        refine y_aload_n (q := 54) rfl rfl rfl ?_
        refine y_getI (q := 57) rfl rfl (by decide) atM0 rfl rfl ?_
        refine y_iload_n (q := 58) rfl rfl rfl ?_
        refine y_guard (fun c12 => ?_)
        refine y_iast (n := 8) (N := 8) (X := (g9 0 13).toInt) (K := (g9 0 13).toInt.toNat) (q := 59) rfl atM5 rfl rfl c12 rfl rfl (fun g11 => ?_)
        refine y_aload_n (q := 60) rfl rfl rfl ?_
        refine y_getR (b := 6) (q := 63) rfl rfl (by decide) atM0 rfl rfl ?_
        refine y_aload_n (q := 64) rfl rfl rfl ?_
        refine y_getI (q := 67) rfl rfl (by decide) atM0 rfl rfl ?_
        refine y_iconst (x := (-1)) (q := 68) rfl (by decide) rfl ?_
        refine y_guard (fun c14 => ?_)
        refine y_iast (n := 8) (N := 8) (X := (g11 0 13).toInt) (K := (g11 0 13).toInt.toNat) (q := 69) rfl atM6 rfl rfl c14 rfl rfl (fun g13 => ?_)
        refine y_iconst (x := 0) (q := 70) rfl (by decide) rfl ?_
        refine y_istore_n (lo' := [some (.ref 0), some (.int v1), some (.int v2), some (.int 0)]) (q := 71) rfl (Nat.le_of_ble_eq_true rfl) rfl rfl ?_
        refine lz_X7_house_71 hd v1 v2  _ (fun z18 g19 => ?_) fuel0 0 g13 
        refine y_aload_n (q := 94) rfl rfl rfl ?_
        refine y_dup (q := 95) rfl rfl ?_
        refine y_getI (q := 98) rfl rfl (by decide) atM0 rfl rfl ?_
        refine y_iconst (x := 1) (q := 99) rfl (by decide) rfl ?_
        refine y_iadd (q := 100) rfl rfl ?_
        refine y_putI (q := 103) rfl rfl (by decide) atM0 rfl rfl rfl rfl (fun g20 => ?_)
        refine y_aload_n (q := 104) rfl rfl rfl ?_
        refine y_getI (q := 107) rfl rfl (by decide) atM0 rfl rfl ?_
        refine y_iconst (x := 1) (q := 108) rfl (by decide) rfl ?_
        refine y_isub (q := 109) rfl rfl ?_
        exact y_retI rfl (by decide) rfl rfl
def f_X7_areTwo (v1 : Int32) (v2 : Int32) (h : dH) : Option (Int32) := oP (f_X7_isHouse v1 h) (fun r1 => if r1.toInt = 0 then ((some 0)) else (oP (f_X7_isHouse v2 h) (fun r4 => if r4.toInt = 0 then ((some 0)) else (if v1.toInt = v2.toInt then ((some 0)) else ((some 1))))))
theorem m_X7_areTwo {d : Nat} (hd : 3 ≤ d) (v1 : Int32) (v2 : Int32) (h : dH) : dX shM d 129 [.ref 0, .int v1, .int v2] (dP h) (f_X7_areTwo v1 v2 h) h := by
  obtain ⟨e, rfl⟩ : ∃ e, d = e + 1 := ⟨d - 1, by omega⟩
  have hd : 2 ≤ e := by omega
  refine dX_of (mj := mj129) (lo := [some (.ref 0), some (.int v1), some (.int v2)]) rfl (Nat.le_of_ble_eq_true rfl) rfl ?_
  unfold f_X7_areTwo
  refine y_aload_n (q := 1) rfl rfl rfl ?_
  refine y_iload_n (q := 2) rfl rfl rfl ?_
  refine y_callP (I := .invokevirtual 105) (idx := 105) (KD := 1) (J := 132) (mj := mj122) (as := [.ref 0, .int v1]) (r := []) (q := 5) rfl (fun _ _ _ _ _ _ => rfl) rfl (by decide) rfl rfl rfl rfl rfl (Nat.le_of_ble_eq_true rfl) (d_recv atM0 (by decide) (by decide)) rfl (m_X7_isHouse (Nat.le_trans (by decide) hd) v1 h) (fun r1 => ?_)
  refine y_eq0 (q := 25) (q' := 8) rfl rfl rfl rfl (fun c2 => ?_) (fun c3 => ?_)
  · skip
    refine y_iconst (x := 0) (q := 26) rfl (by decide) rfl ?_
    exact y_retP rfl (by decide) rfl rfl
  · skip
    refine y_aload_n (q := 9) rfl rfl rfl ?_
    refine y_iload_n (q := 10) rfl rfl rfl ?_
    refine y_callP (I := .invokevirtual 105) (idx := 105) (KD := 1) (J := 132) (mj := mj122) (as := [.ref 0, .int v2]) (r := []) (q := 13) rfl (fun _ _ _ _ _ _ => rfl) rfl (by decide) rfl rfl rfl rfl rfl (Nat.le_of_ble_eq_true rfl) (d_recv atM0 (by decide) (by decide)) rfl (m_X7_isHouse (Nat.le_trans (by decide) hd) v2 h) (fun r4 => ?_)
    refine y_eq0 (q := 25) (q' := 16) rfl rfl rfl rfl (fun c5 => ?_) (fun c6 => ?_)
    · skip
      refine y_iconst (x := 0) (q := 26) rfl (by decide) rfl ?_
      exact y_retP rfl (by decide) rfl rfl
    · skip
      refine y_iload_n (q := 17) rfl rfl rfl ?_
      refine y_iload_n (q := 18) rfl rfl rfl ?_
      refine y_eq (q := 25) (q' := 21) rfl rfl rfl rfl rfl (fun c7 => ?_) (fun c8 => ?_)
      · skip
        refine y_iconst (x := 0) (q := 26) rfl (by decide) rfl ?_
        exact y_retP rfl (by decide) rfl rfl
      · skip
        refine y_iconst (x := 1) (q := 22) rfl (by decide) rfl ?_
        refine y_goto (q := 26) rfl rfl ?_
        exact y_retP rfl (by decide) rfl rfl
def f_X7_bind (v1 : Int32) (v2 : Int32) (v3 : Int32) (h : dH) : Option (Int32 × dH) := oP (f_X7_areTwo v1 v2 h) (fun r1 => if r1.toInt = 0 then (some ((-2), h)) else (oP (f_X7_in (v3.toInt64) 0 99) (fun r4 => if r4.toInt = 0 then (some ((-2), h)) else (oP (f_X7_strengthOf v1 v2 h) (fun r7 => oV (f_X7_binds v1 v2 v3 h) (fun g8 => some (r7, g8)))))))
theorem m_X7_bind {d : Nat} (hd : 4 ≤ d) (v1 : Int32) (v2 : Int32) (v3 : Int32) (h : dH) : dX shM d 130 [.ref 0, .int v1, .int v2, .int v3] dI (f_X7_bind v1 v2 v3 h) h := by
  obtain ⟨e, rfl⟩ : ∃ e, d = e + 1 := ⟨d - 1, by omega⟩
  have hd : 3 ≤ e := by omega
  refine dX_of (mj := mj130) (lo := [some (.ref 0), some (.int v1), some (.int v2), some (.int v3), none]) rfl (Nat.le_of_ble_eq_true rfl) rfl ?_
  unfold f_X7_bind
  refine y_aload_n (q := 1) rfl rfl rfl ?_
  refine y_iload_n (q := 2) rfl rfl rfl ?_
  refine y_iload_n (q := 3) rfl rfl rfl ?_
  refine y_callP (I := .invokevirtual 136) (idx := 136) (KD := 1) (J := 139) (mj := mj129) (as := [.ref 0, .int v1, .int v2]) (r := []) (q := 6) rfl (fun _ _ _ _ _ _ => rfl) rfl (by decide) rfl rfl rfl rfl rfl (Nat.le_of_ble_eq_true rfl) (d_recv atM0 (by decide) (by decide)) rfl (m_X7_areTwo (Nat.le_trans (by decide) hd) v1 v2 h) (fun r1 => ?_)
  refine y_eq0 (q := 21) (q' := 9) rfl rfl rfl rfl (fun c2 => ?_) (fun c3 => ?_)
  · skip
    refine y_bipush (x := (-2)) (q := 23) rfl (by decide) rfl ?_
    exact y_retI rfl (by decide) rfl rfl
  · skip
    refine y_iload_n (q := 10) rfl rfl rfl ?_
    refine y_i2l (q := 11) rfl rfl ?_
    refine y_lconst (u := 0) (q := 12) rfl (by decide) rfl ?_
    refine y_ldc2_w (u := 99) (q := 15) rfl rfl rfl ?_
    refine y_callP (I := .invokestatic 91) (idx := 91) (KD := 0) (J := 128) (mj := mj118) (as := [.long v3.toInt64, .long 0, .long 99]) (r := []) (q := 18) rfl (fun _ _ _ _ _ _ => rfl) rfl (by decide) rfl rfl rfl rfl rfl (Nat.le_of_ble_eq_true rfl) rfl rfl (m_X7_in (Nat.le_trans (by decide) hd) (v3.toInt64) 0 99 h) (fun r4 => ?_)
    refine y_ne0 (q := 24) (q' := 21) rfl rfl rfl rfl (fun c5 => ?_) (fun c6 => ?_)
    · skip
      refine y_bipush (x := (-2)) (q := 23) rfl (by decide) rfl ?_
      exact y_retI rfl (by decide) rfl rfl
    · skip
      refine y_aload_n (q := 25) rfl rfl rfl ?_
      refine y_iload_n (q := 26) rfl rfl rfl ?_
      refine y_iload_n (q := 27) rfl rfl rfl ?_
      refine y_callP (I := .invokevirtual 139) (idx := 139) (KD := 1) (J := 136) (mj := mj126) (as := [.ref 0, .int v1, .int v2]) (r := []) (q := 30) rfl (fun _ _ _ _ _ _ => rfl) rfl (by decide) rfl rfl rfl rfl rfl (Nat.le_of_ble_eq_true rfl) (d_recv atM0 (by decide) (by decide)) rfl (m_X7_strengthOf (Nat.le_trans (by decide) hd) v1 v2 h) (fun r7 => ?_)
      refine y_istore (lo' := [some (.ref 0), some (.int v1), some (.int v2), some (.int v3), some (.int r7)]) (q := 32) rfl (Nat.le_of_ble_eq_true rfl) rfl rfl ?_
      refine y_aload_n (q := 33) rfl rfl rfl ?_
      refine y_iload_n (q := 34) rfl rfl rfl ?_
      refine y_iload_n (q := 35) rfl rfl rfl ?_
      refine y_iload_n (q := 36) rfl rfl rfl ?_
      refine y_callV (I := .invokevirtual 133) (idx := 133) (KD := 1) (J := 137) (mj := mj127) (as := [.ref 0, .int v1, .int v2, .int v3]) (r := []) (q := 39) rfl (fun _ _ _ _ _ _ => rfl) rfl (by decide) rfl rfl rfl rfl rfl (Nat.le_of_ble_eq_true rfl) (d_recv atM0 (by decide) (by decide)) rfl (m_X7_binds (Nat.le_trans (by decide) hd) v1 v2 v3 h) (fun g8 => ?_)
      refine y_iload (q := 41) rfl rfl rfl ?_
      exact y_retI rfl (by decide) rfl rfl
def f_X7_feed (v1 : Int32) (h : dH) : Option (Int32 × dH) := oP (f_X7_in (v1.toInt64) 0 255) (fun r1 => if r1.toInt = 0 then (some ((-2), h)) else (if (h 0 6).toInt = 160 then (some ((-4), h)) else (if 0 ≤ (h 0 6).toInt ∧ (h 0 6).toInt < 160 then (oH (dU h 3 ((h 0 6).toInt.toNat) v1) (fun g6 => oH (dU g6 0 6 ((g6 0 6) + 1)) (fun g8 => some ((g8 0 6), g8)))) else none)))
theorem m_X7_feed {d : Nat} (hd : 2 ≤ d) (v1 : Int32) (h : dH) : dX shM d 133 [.ref 0, .int v1] dI (f_X7_feed v1 h) h := by
  obtain ⟨e, rfl⟩ : ∃ e, d = e + 1 := ⟨d - 1, by omega⟩
  have hd : 1 ≤ e := by omega
  refine dX_of (mj := mj133) (lo := [some (.ref 0), some (.int v1)]) rfl (Nat.le_of_ble_eq_true rfl) rfl ?_
  unfold f_X7_feed
  refine y_iload_n (q := 1) rfl rfl rfl ?_
  refine y_i2l (q := 2) rfl rfl ?_
  refine y_lconst (u := 0) (q := 3) rfl (by decide) rfl ?_
  refine y_ldc2_w (u := 255) (q := 6) rfl rfl rfl ?_
  refine y_callP (I := .invokestatic 91) (idx := 91) (KD := 0) (J := 128) (mj := mj118) (as := [.long v1.toInt64, .long 0, .long 255]) (r := []) (q := 9) rfl (fun _ _ _ _ _ _ => rfl) rfl (by decide) rfl rfl rfl rfl rfl (Nat.le_of_ble_eq_true rfl) rfl rfl (m_X7_in (Nat.le_trans (by decide) hd) (v1.toInt64) 0 255 h) (fun r1 => ?_)
  refine y_ne0 (q := 15) (q' := 12) rfl rfl rfl rfl (fun c2 => ?_) (fun c3 => ?_)
  · skip
    refine y_bipush (x := (-2)) (q := 14) rfl (by decide) rfl ?_
    exact y_retI rfl (by decide) rfl rfl
  · skip
    refine y_aload_n (q := 16) rfl rfl rfl ?_
    refine y_getI (q := 19) rfl rfl (by decide) atM0 rfl rfl ?_
    refine y_sipush (x := 160) (q := 22) rfl (by decide) rfl ?_
    refine y_ne (q := 28) (q' := 25) rfl rfl (by decide) rfl rfl (fun c4 => ?_) (fun c5 => ?_)
    · skip
      refine y_bipush (x := (-4)) (q := 27) rfl (by decide) rfl ?_
      exact y_retI rfl (by decide) rfl rfl
    · skip
      refine y_aload_n (q := 29) rfl rfl rfl ?_
      refine y_getR (b := 3) (q := 32) rfl rfl (by decide) atM0 rfl rfl ?_
      refine y_aload_n (q := 33) rfl rfl rfl ?_
      refine y_getI (q := 36) rfl rfl (by decide) atM0 rfl rfl ?_
      refine y_iload_n (q := 37) rfl rfl rfl ?_
      refine y_guard (fun c7 => ?_)
      refine y_iast (n := 160) (N := 160) (X := (h 0 6).toInt) (K := (h 0 6).toInt.toNat) (q := 38) rfl atM3 rfl rfl c7 rfl rfl (fun g6 => ?_)
      refine y_aload_n (q := 39) rfl rfl rfl ?_
      refine y_dup (q := 40) rfl rfl ?_
      refine y_getI (q := 43) rfl rfl (by decide) atM0 rfl rfl ?_
      refine y_iconst (x := 1) (q := 44) rfl (by decide) rfl ?_
      refine y_iadd (q := 45) rfl rfl ?_
      refine y_putI (q := 48) rfl rfl (by decide) atM0 rfl rfl rfl rfl (fun g8 => ?_)
      refine y_aload_n (q := 49) rfl rfl rfl ?_
      refine y_getI (q := 52) rfl rfl (by decide) atM0 rfl rfl ?_
      exact y_retI rfl (by decide) rfl rfl
def l_X7_text_14  (k : dH → Option (Int32 × dH)) : Nat → Int32 → dH → Option (Int32 × dH)
  | 0, _, _ => none
  | n + 1, v1, h => if v1.toInt < (h 0 6).toInt then (if 0 ≤ v1.toInt ∧ v1.toInt < 160 then (if 0 ≤ ((160 * (h 0 3)) + v1).toInt ∧ ((160 * (h 0 3)) + v1).toInt < 960 then (oH (dU h 1 (((160 * (h 0 3)) + v1).toInt.toNat) (h 3 (v1.toInt.toNat))) (fun g6 => l_X7_text_14  k n (v1 + 1) g6)) else none) else none) else (k  h)
theorem lz_X7_text_14 {d : Nat} (hd : 42 ≤ d)  (k : dH → Option (Int32 × dH)) (hk : ∀ (w1 : Int32) (h : dH), dY shM d mj180 dI (k h) 49 [some (.ref 0), some (.int w1)] [] h) : ∀ (n : Nat) (v1 : Int32) (h : dH), dY shM d mj180 dI (l_X7_text_14  k n v1 h) 14 [some (.ref 0), some (.int v1)] [] h
  | 0, _, _ => dY_none
  | n + 1, v1, h => by
    rw [l_X7_text_14]
    refine y_iload_n (q := 15) rfl rfl rfl ?_
    refine y_aload_n (q := 16) rfl rfl rfl ?_
    refine y_getI (q := 19) rfl rfl (by decide) atM0 rfl rfl ?_
    refine y_ge (q := 49) (q' := 22) rfl rfl rfl rfl rfl (fun c3 => ?_) (fun c4 => ?_)
    · skip
      refine y_aload_n (q := 23) rfl rfl rfl ?_
      refine y_getR (b := 1) (q := 26) rfl rfl (by decide) atM0 rfl rfl ?_
      refine y_sipush (x := 160) (q := 29) rfl (by decide) rfl ?_
      refine y_aload_n (q := 30) rfl rfl rfl ?_
      refine y_getI (q := 33) rfl rfl (by decide) atM0 rfl rfl ?_
      refine y_imul (q := 34) rfl rfl ?_
      refine y_iload_n (q := 35) rfl rfl rfl ?_
      refine y_iadd (q := 36) rfl rfl ?_
      refine y_aload_n (q := 37) rfl rfl rfl ?_
      refine y_getR (b := 3) (q := 40) rfl rfl (by decide) atM0 rfl rfl ?_
      refine y_iload_n (q := 41) rfl rfl rfl ?_
      refine y_guard (fun c5 => ?_)
      refine y_iald (n := 160) (N := 160) (X := v1.toInt) (K := v1.toInt.toNat) (q := 42) hbM rfl atM3 rfl rfl c5 rfl rfl ?_
      refine y_guard (fun c7 => ?_)
      refine y_iast (n := 960) (N := 960) (X := ((160 * (h 0 3)) + v1).toInt) (K := ((160 * (h 0 3)) + v1).toInt.toNat) (q := 43) rfl atM1 rfl rfl c7 rfl rfl (fun g6 => ?_)
      refine y_iinc (z := (v1 + 1)) (lo' := [some (.ref 0), some (.int (v1 + 1))]) (q := 46) rfl rfl (Nat.le_of_ble_eq_true rfl) (by rw [oi_1]) rfl rfl ?_
      refine y_goto (q := 14) rfl rfl ?_
      exact lz_X7_text_14 hd  k hk n (v1 + 1) g6 
    · skip
      exact hk  v1 h
def f_X7_text  (h : dH) : Option (Int32 × dH) := if (h 0 3).toInt = 6 then (some ((-4), h)) else (l_X7_text_14   (fun g9 => if 0 ≤ (g9 0 3).toInt ∧ (g9 0 3).toInt < 6 then (oH (dU g9 2 ((g9 0 3).toInt.toNat) (g9 0 6)) (fun g10 => oH (dU g10 0 6 0) (fun g12 => oI (f_X7_read (g12 0 3) 0 g12) (fun r13 g14 => if (g14 0 27).toInt = 0 then (oH (dU g14 0 3 ((g14 0 3) + 1)) (fun g17 => some (((g17 0 3) - 1), g17))) else (some (((-100) - (g14 0 28)), g14)))))) else none) fuel0 0 h)
theorem m_X7_text {d : Nat} (hd : 43 ≤ d)  (h : dH) : dX shM d 180 [.ref 0] dI (f_X7_text  h) h := by
  obtain ⟨e, rfl⟩ : ∃ e, d = e + 1 := ⟨d - 1, by omega⟩
  have hd : 42 ≤ e := by omega
  refine dX_of (mj := mj180) (lo := [some (.ref 0), none]) rfl (Nat.le_of_ble_eq_true rfl) rfl ?_
  unfold f_X7_text
  refine y_aload_n (q := 1) rfl rfl rfl ?_
  refine y_getI (q := 4) rfl rfl (by decide) atM0 rfl rfl ?_
  refine y_bipush (x := 6) (q := 6) rfl (by decide) rfl ?_
  refine y_ne (q := 12) (q' := 9) rfl rfl (by decide) rfl rfl (fun c1 => ?_) (fun c2 => ?_)
  · skip
    refine y_bipush (x := (-4)) (q := 11) rfl (by decide) rfl ?_
    exact y_retI rfl (by decide) rfl rfl
  · skip
    refine y_iconst (x := 0) (q := 13) rfl (by decide) rfl ?_
    refine y_istore_n (lo' := [some (.ref 0), some (.int 0)]) (q := 14) rfl (Nat.le_of_ble_eq_true rfl) rfl rfl ?_
    refine lz_X7_text_14 hd   _ (fun z8 g9 => ?_) fuel0 0 h 
    refine y_aload_n (q := 50) rfl rfl rfl ?_
    refine y_getR (b := 2) (q := 53) rfl rfl (by decide) atM0 rfl rfl ?_
    refine y_aload_n (q := 54) rfl rfl rfl ?_
    refine y_getI (q := 57) rfl rfl (by decide) atM0 rfl rfl ?_
    refine y_aload_n (q := 58) rfl rfl rfl ?_
    refine y_getI (q := 61) rfl rfl (by decide) atM0 rfl rfl ?_
    refine y_guard (fun c11 => ?_)
    refine y_iast (n := 6) (N := 6) (X := (g9 0 3).toInt) (K := (g9 0 3).toInt.toNat) (q := 62) rfl atM2 rfl rfl c11 rfl rfl (fun g10 => ?_)
    refine y_aload_n (q := 63) rfl rfl rfl ?_
    refine y_iconst (x := 0) (q := 64) rfl (by decide) rfl ?_
    refine y_putI (q := 67) rfl rfl (by decide) atM0 rfl rfl rfl rfl (fun g12 => ?_)
    refine y_aload_n (q := 68) rfl rfl rfl ?_
    refine y_aload_n (q := 69) rfl rfl rfl ?_
    refine y_getI (q := 72) rfl rfl (by decide) atM0 rfl rfl ?_
    refine y_iconst (x := 0) (q := 73) rfl (by decide) rfl ?_
    refine y_callI (I := .invokevirtual 361) (idx := 361) (KD := 1) (J := 189) (mj := mj179) (as := [.ref 0, .int (g12 0 3), .int 0]) (r := []) (q := 76) rfl (fun _ _ _ _ _ _ => rfl) rfl (by decide) rfl rfl rfl rfl rfl (Nat.le_of_ble_eq_true rfl) (d_recv atM0 (by decide) (by decide)) rfl (m_X7_read (Nat.le_trans (by decide) hd) (g12 0 3) 0 g12) (fun r13 g14 => ?_)
    refine y_istore_n (lo' := [some (.ref 0), some (.int r13)]) (q := 77) rfl (Nat.le_of_ble_eq_true rfl) rfl rfl ?_
    refine y_aload_n (q := 78) rfl rfl rfl ?_
    refine y_getI (q := 81) rfl rfl (by decide) atM0 rfl rfl ?_
    refine y_eq0 (q := 92) (q' := 84) rfl rfl rfl rfl (fun c15 => ?_) (fun c16 => ?_)
    · skip
      refine y_aload_n (q := 93) rfl rfl rfl ?_
      refine y_dup (q := 94) rfl rfl ?_
      refine y_getI (q := 97) rfl rfl (by decide) atM0 rfl rfl ?_
      refine y_iconst (x := 1) (q := 98) rfl (by decide) rfl ?_
      refine y_iadd (q := 99) rfl rfl ?_
      refine y_putI (q := 102) rfl rfl (by decide) atM0 rfl rfl rfl rfl (fun g17 => ?_)
      refine y_aload_n (q := 103) rfl rfl rfl ?_
      refine y_getI (q := 106) rfl rfl (by decide) atM0 rfl rfl ?_
      refine y_iconst (x := 1) (q := 107) rfl (by decide) rfl ?_
      refine y_isub (q := 108) rfl rfl ?_
      exact y_retI rfl (by decide) rfl rfl
    · skip
      refine y_bipush (x := (-100)) (q := 86) rfl (by decide) rfl ?_
      refine y_aload_n (q := 87) rfl rfl rfl ?_
      refine y_getI (q := 90) rfl rfl (by decide) atM0 rfl rfl ?_
      refine y_isub (q := 91) rfl rfl ?_
      exact y_retI rfl (by decide) rfl rfl
def f_X7_force (v1 : Int32) (h : dH) : Option (Int32 × dH) := oP (f_X7_in (v1.toInt64) 0 (((h 0 3) - 1).toInt64)) (fun r1 => if r1.toInt = 0 then (some ((-2), h)) else (oH (dU h 0 4 v1) (fun g4 => some ((h 0 4), g4))))
theorem m_X7_force {d : Nat} (hd : 2 ≤ d) (v1 : Int32) (h : dH) : dX shM d 181 [.ref 0, .int v1] dI (f_X7_force v1 h) h := by
  obtain ⟨e, rfl⟩ : ∃ e, d = e + 1 := ⟨d - 1, by omega⟩
  have hd : 1 ≤ e := by omega
  refine dX_of (mj := mj181) (lo := [some (.ref 0), some (.int v1), none]) rfl (Nat.le_of_ble_eq_true rfl) rfl ?_
  unfold f_X7_force
  refine y_iload_n (q := 1) rfl rfl rfl ?_
  refine y_i2l (q := 2) rfl rfl ?_
  refine y_lconst (u := 0) (q := 3) rfl (by decide) rfl ?_
  refine y_aload_n (q := 4) rfl rfl rfl ?_
  refine y_getI (q := 7) rfl rfl (by decide) atM0 rfl rfl ?_
  refine y_iconst (x := 1) (q := 8) rfl (by decide) rfl ?_
  refine y_isub (q := 9) rfl rfl ?_
  refine y_i2l (q := 10) rfl rfl ?_
  refine y_callP (I := .invokestatic 91) (idx := 91) (KD := 0) (J := 128) (mj := mj118) (as := [.long v1.toInt64, .long 0, .long ((h 0 3) - 1).toInt64]) (r := []) (q := 13) rfl (fun _ _ _ _ _ _ => rfl) rfl (by decide) rfl rfl rfl rfl rfl (Nat.le_of_ble_eq_true rfl) rfl rfl (m_X7_in (Nat.le_trans (by decide) hd) (v1.toInt64) 0 (((h 0 3) - 1).toInt64) h) (fun r1 => ?_)
  refine y_ne0 (q := 19) (q' := 16) rfl rfl rfl rfl (fun c2 => ?_) (fun c3 => ?_)
  · skip
    refine y_bipush (x := (-2)) (q := 18) rfl (by decide) rfl ?_
    exact y_retI rfl (by decide) rfl rfl
  · skip
    refine y_aload_n (q := 20) rfl rfl rfl ?_
    refine y_getI (q := 23) rfl rfl (by decide) atM0 rfl rfl ?_
    refine y_istore_n (lo' := [some (.ref 0), some (.int v1), some (.int (h 0 4))]) (q := 24) rfl (Nat.le_of_ble_eq_true rfl) rfl rfl ?_
    refine y_aload_n (q := 25) rfl rfl rfl ?_
    refine y_iload_n (q := 26) rfl rfl rfl ?_
    refine y_putI (q := 29) rfl rfl (by decide) atM0 rfl rfl rfl rfl (fun g4 => ?_)
    refine y_iload_n (q := 30) rfl rfl rfl ?_
    exact y_retI rfl (by decide) rfl rfl
def f_X7_meetsOf (v1 : Int32) (v2 : Int32) (h : dH) : Option (Int32 × dH) := if 0 ≤ v1.toInt ∧ v1.toInt < 8 then (oI (f_X7_says 0 v1 v2 h) (fun r2 g3 => if (h 4 (v1.toInt.toNat)).toInt = 1 then (some ((2 * r2), g3)) else (if (h 4 (v1.toInt.toNat)).toInt = 3 then (if 0 ≤ v1.toInt ∧ v1.toInt < 8 then (some (((2 * r2) + (g3 5 (v1.toInt.toNat))), g3)) else none) else (if (h 4 (v1.toInt.toNat)).toInt = 2 then (some ((r2 / 2), g3)) else (if (h 4 (v1.toInt.toNat)).toInt = 4 then (oP (f_X7_apart v1 v2) (fun r13 => if 2 < r13.toInt then (some (0, g3)) else (some ((r2 / 2), g3)))) else (if (h 4 (v1.toInt.toNat)).toInt = 5 then (some (3, g3)) else (some (r2, g3)))))))) else none
theorem m_X7_meetsOf {d : Nat} (hd : 44 ≤ d) (v1 : Int32) (v2 : Int32) (h : dH) : dX shM d 184 [.ref 0, .int v1, .int v2] dI (f_X7_meetsOf v1 v2 h) h := by
  obtain ⟨e, rfl⟩ : ∃ e, d = e + 1 := ⟨d - 1, by omega⟩
  have hd : 43 ≤ e := by omega
  refine dX_of (mj := mj184) (lo := [some (.ref 0), some (.int v1), some (.int v2), none, none]) rfl (Nat.le_of_ble_eq_true rfl) rfl ?_
  unfold f_X7_meetsOf
  refine y_aload_n (q := 1) rfl rfl rfl ?_
  refine y_getR (b := 4) (q := 4) rfl rfl (by decide) atM0 rfl rfl ?_
  refine y_iload_n (q := 5) rfl rfl rfl ?_
  refine y_guard (fun c1 => ?_)
  refine y_iald (n := 8) (N := 8) (X := v1.toInt) (K := v1.toInt.toNat) (q := 6) hbM rfl atM4 rfl rfl c1 rfl rfl ?_
  refine y_istore_n (lo' := [some (.ref 0), some (.int v1), some (.int v2), some (.int (h 4 (v1.toInt.toNat))), none]) (q := 7) rfl (Nat.le_of_ble_eq_true rfl) rfl rfl ?_
  refine y_aload_n (q := 8) rfl rfl rfl ?_
  refine y_iconst (x := 0) (q := 9) rfl (by decide) rfl ?_
  refine y_iload_n (q := 10) rfl rfl rfl ?_
  refine y_iload_n (q := 11) rfl rfl rfl ?_
  refine y_callI (I := .invokevirtual 367) (idx := 367) (KD := 1) (J := 192) (mj := mj182) (as := [.ref 0, .int 0, .int v1, .int v2]) (r := []) (q := 14) rfl (fun _ _ _ _ _ _ => rfl) rfl (by decide) rfl rfl rfl rfl rfl (Nat.le_of_ble_eq_true rfl) (d_recv atM0 (by decide) (by decide)) rfl (m_X7_says (Nat.le_trans (by decide) hd) 0 v1 v2 h) (fun r2 g3 => ?_)
  refine y_istore (lo' := [some (.ref 0), some (.int v1), some (.int v2), some (.int (h 4 (v1.toInt.toNat))), some (.int r2)]) (q := 16) rfl (Nat.le_of_ble_eq_true rfl) rfl rfl ?_
  refine y_iload_n (q := 17) rfl rfl rfl ?_
  refine y_iconst (x := 1) (q := 18) rfl (by decide) rfl ?_
  refine y_ne (q := 28) (q' := 21) rfl rfl (by decide) rfl rfl (fun c4 => ?_) (fun c5 => ?_)
  · skip
    refine y_iconst (x := 2) (q := 22) rfl (by decide) rfl ?_
    refine y_iload (q := 24) rfl rfl rfl ?_
    refine y_imul (q := 25) rfl rfl ?_
    refine y_goto (q := 95) rfl rfl ?_
    exact y_retI rfl (by decide) rfl rfl
  · skip
    refine y_iload_n (q := 29) rfl rfl rfl ?_
    refine y_iconst (x := 3) (q := 30) rfl (by decide) rfl ?_
    refine y_ne (q := 47) (q' := 33) rfl rfl (by decide) rfl rfl (fun c6 => ?_) (fun c7 => ?_)
    · skip
      refine y_iconst (x := 2) (q := 34) rfl (by decide) rfl ?_
      refine y_iload (q := 36) rfl rfl rfl ?_
      refine y_imul (q := 37) rfl rfl ?_
      refine y_aload_n (q := 38) rfl rfl rfl ?_
      refine y_getR (b := 5) (q := 41) rfl rfl (by decide) atM0 rfl rfl ?_
      refine y_iload_n (q := 42) rfl rfl rfl ?_
      refine y_guard (fun c8 => ?_)
      refine y_iald (n := 8) (N := 8) (X := v1.toInt) (K := v1.toInt.toNat) (q := 43) hbM rfl atM5 rfl rfl c8 rfl rfl ?_
      refine y_iadd (q := 44) rfl rfl ?_
      refine y_goto (q := 95) rfl rfl ?_
      exact y_retI rfl (by decide) rfl rfl
    · skip
      refine y_iload_n (q := 48) rfl rfl rfl ?_
      refine y_iconst (x := 2) (q := 49) rfl (by decide) rfl ?_
      refine y_ne (q := 59) (q' := 52) rfl rfl (by decide) rfl rfl (fun c9 => ?_) (fun c10 => ?_)
      · skip
        refine y_iload (q := 54) rfl rfl rfl ?_
        refine y_iconst (x := 2) (q := 55) rfl (by decide) rfl ?_
        refine y_idiv (q := 56) rfl (by decide) rfl ?_
        refine y_goto (q := 95) rfl rfl ?_
        exact y_retI rfl (by decide) rfl rfl
      · skip
        refine y_iload_n (q := 60) rfl rfl rfl ?_
        refine y_iconst (x := 4) (q := 61) rfl (by decide) rfl ?_
        refine y_ne (q := 84) (q' := 64) rfl rfl (by decide) rfl rfl (fun c11 => ?_) (fun c12 => ?_)
        · skip
          refine y_iload_n (q := 65) rfl rfl rfl ?_
          refine y_iload_n (q := 66) rfl rfl rfl ?_
          refine y_callP (I := .invokestatic 364) (idx := 364) (KD := 0) (J := 193) (mj := mj183) (as := [.int v1, .int v2]) (r := []) (q := 69) rfl (fun _ _ _ _ _ _ => rfl) rfl (by decide) rfl rfl rfl rfl rfl (Nat.le_of_ble_eq_true rfl) rfl rfl (m_X7_apart (Nat.le_trans (by decide) hd) v1 v2 g3) (fun r13 => ?_)
          refine y_iconst (x := 2) (q := 70) rfl (by decide) rfl ?_
          refine y_le (q := 77) (q' := 73) rfl rfl (by decide) rfl rfl (fun c14 => ?_) (fun c15 => ?_)
          · skip
            refine y_iconst (x := 0) (q := 74) rfl (by decide) rfl ?_
            refine y_goto (q := 95) rfl rfl ?_
            exact y_retI rfl (by decide) rfl rfl
          · skip
            refine y_iload (q := 79) rfl rfl rfl ?_
            refine y_iconst (x := 2) (q := 80) rfl (by decide) rfl ?_
            refine y_idiv (q := 81) rfl (by decide) rfl ?_
            refine y_goto (q := 95) rfl rfl ?_
            exact y_retI rfl (by decide) rfl rfl
        · skip
          refine y_iload_n (q := 85) rfl rfl rfl ?_
          refine y_iconst (x := 5) (q := 86) rfl (by decide) rfl ?_
          refine y_ne (q := 93) (q' := 89) rfl rfl (by decide) rfl rfl (fun c16 => ?_) (fun c17 => ?_)
          · skip
            refine y_iconst (x := 3) (q := 90) rfl (by decide) rfl ?_
            refine y_goto (q := 95) rfl rfl ?_
            exact y_retI rfl (by decide) rfl rfl
          · skip
            refine y_iload (q := 95) rfl rfl rfl ?_
            exact y_retI rfl (by decide) rfl rfl
def f_X7_fadesOf (v1 : Int32) (v2 : Int32) (h : dH) : Option (Int32 × dH) := if 0 ≤ v1.toInt ∧ v1.toInt < 8 then (oI (f_X7_says 1 v1 v2 h) (fun r2 g3 => if (h 4 (v1.toInt.toNat)).toInt = 1 then (some ((r2 + 1), g3)) else (if (h 4 (v1.toInt.toNat)).toInt = 3 then (some ((2 * (r2 + 1)), g3)) else (if (h 4 (v1.toInt.toNat)).toInt = 2 then (some ((r2 / 2), g3)) else (if (h 4 (v1.toInt.toNat)).toInt = 4 then (if (drem (g3 0 7) 2).toInt = 0 then (some (0, g3)) else (some ((r2 / 2), g3))) else (some (r2, g3))))))) else none
theorem m_X7_fadesOf {d : Nat} (hd : 44 ≤ d) (v1 : Int32) (v2 : Int32) (h : dH) : dX shM d 185 [.ref 0, .int v1, .int v2] dI (f_X7_fadesOf v1 v2 h) h := by
  obtain ⟨e, rfl⟩ : ∃ e, d = e + 1 := ⟨d - 1, by omega⟩
  have hd : 43 ≤ e := by omega
  refine dX_of (mj := mj185) (lo := [some (.ref 0), some (.int v1), some (.int v2), none, none]) rfl (Nat.le_of_ble_eq_true rfl) rfl ?_
  unfold f_X7_fadesOf
  refine y_aload_n (q := 1) rfl rfl rfl ?_
  refine y_getR (b := 4) (q := 4) rfl rfl (by decide) atM0 rfl rfl ?_
  refine y_iload_n (q := 5) rfl rfl rfl ?_
  refine y_guard (fun c1 => ?_)
  refine y_iald (n := 8) (N := 8) (X := v1.toInt) (K := v1.toInt.toNat) (q := 6) hbM rfl atM4 rfl rfl c1 rfl rfl ?_
  refine y_istore_n (lo' := [some (.ref 0), some (.int v1), some (.int v2), some (.int (h 4 (v1.toInt.toNat))), none]) (q := 7) rfl (Nat.le_of_ble_eq_true rfl) rfl rfl ?_
  refine y_aload_n (q := 8) rfl rfl rfl ?_
  refine y_iconst (x := 1) (q := 9) rfl (by decide) rfl ?_
  refine y_iload_n (q := 10) rfl rfl rfl ?_
  refine y_iload_n (q := 11) rfl rfl rfl ?_
  refine y_callI (I := .invokevirtual 367) (idx := 367) (KD := 1) (J := 192) (mj := mj182) (as := [.ref 0, .int 1, .int v1, .int v2]) (r := []) (q := 14) rfl (fun _ _ _ _ _ _ => rfl) rfl (by decide) rfl rfl rfl rfl rfl (Nat.le_of_ble_eq_true rfl) (d_recv atM0 (by decide) (by decide)) rfl (m_X7_says (Nat.le_trans (by decide) hd) 1 v1 v2 h) (fun r2 g3 => ?_)
  refine y_istore (lo' := [some (.ref 0), some (.int v1), some (.int v2), some (.int (h 4 (v1.toInt.toNat))), some (.int r2)]) (q := 16) rfl (Nat.le_of_ble_eq_true rfl) rfl rfl ?_
  refine y_iload_n (q := 17) rfl rfl rfl ?_
  refine y_iconst (x := 1) (q := 18) rfl (by decide) rfl ?_
  refine y_ne (q := 28) (q' := 21) rfl rfl (by decide) rfl rfl (fun c4 => ?_) (fun c5 => ?_)
  · skip
    refine y_iload (q := 23) rfl rfl rfl ?_
    refine y_iconst (x := 1) (q := 24) rfl (by decide) rfl ?_
    refine y_iadd (q := 25) rfl rfl ?_
    refine y_goto (q := 81) rfl rfl ?_
    exact y_retI rfl (by decide) rfl rfl
  · skip
    refine y_iload_n (q := 29) rfl rfl rfl ?_
    refine y_iconst (x := 3) (q := 30) rfl (by decide) rfl ?_
    refine y_ne (q := 42) (q' := 33) rfl rfl (by decide) rfl rfl (fun c6 => ?_) (fun c7 => ?_)
    · skip
      refine y_iconst (x := 2) (q := 34) rfl (by decide) rfl ?_
      refine y_iload (q := 36) rfl rfl rfl ?_
      refine y_iconst (x := 1) (q := 37) rfl (by decide) rfl ?_
      refine y_iadd (q := 38) rfl rfl ?_
      refine y_imul (q := 39) rfl rfl ?_
      refine y_goto (q := 81) rfl rfl ?_
      exact y_retI rfl (by decide) rfl rfl
    · skip
      refine y_iload_n (q := 43) rfl rfl rfl ?_
      refine y_iconst (x := 2) (q := 44) rfl (by decide) rfl ?_
      refine y_ne (q := 54) (q' := 47) rfl rfl (by decide) rfl rfl (fun c8 => ?_) (fun c9 => ?_)
      · skip
        refine y_iload (q := 49) rfl rfl rfl ?_
        refine y_iconst (x := 2) (q := 50) rfl (by decide) rfl ?_
        refine y_idiv (q := 51) rfl (by decide) rfl ?_
        refine y_goto (q := 81) rfl rfl ?_
        exact y_retI rfl (by decide) rfl rfl
      · skip
        refine y_iload_n (q := 55) rfl rfl rfl ?_
        refine y_iconst (x := 4) (q := 56) rfl (by decide) rfl ?_
        refine y_ne (q := 79) (q' := 59) rfl rfl (by decide) rfl rfl (fun c10 => ?_) (fun c11 => ?_)
        · skip
          refine y_aload_n (q := 60) rfl rfl rfl ?_
          refine y_getI (q := 63) rfl rfl (by decide) atM0 rfl rfl ?_
          refine y_iconst (x := 2) (q := 64) rfl (by decide) rfl ?_
          refine y_irem (q := 65) rfl (by decide) rfl ?_
          refine y_ne0 (q := 72) (q' := 68) rfl rfl rfl rfl (fun c12 => ?_) (fun c13 => ?_)
          · skip
            refine y_iconst (x := 0) (q := 69) rfl (by decide) rfl ?_
            refine y_goto (q := 81) rfl rfl ?_
            exact y_retI rfl (by decide) rfl rfl
          · skip
            refine y_iload (q := 74) rfl rfl rfl ?_
            refine y_iconst (x := 2) (q := 75) rfl (by decide) rfl ?_
            refine y_idiv (q := 76) rfl (by decide) rfl ?_
            refine y_goto (q := 81) rfl rfl ?_
            exact y_retI rfl (by decide) rfl rfl
        · skip
          refine y_iload (q := 81) rfl rfl rfl ?_
          exact y_retI rfl (by decide) rfl rfl
end
