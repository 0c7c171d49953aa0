section
/-! X7_says, X7_soundsOf, X7_told, X7_set, X7_binds, X7_house, X7_areTwo, X7_bind, X7_feed, X7_text, X7_force, X7_meetsOf, X7_fadesOf (by program) -/
noncomputable section
def f_X7_says (v1 : Int32) (v2 : Int32) (v3 : Int32) (h : dH) : Option (Int32 × dH) := if v3.toInt = (-1) then (oH (dU h 0 14 0) (fun g3 => if 0 ≤ v2.toInt ∧ v2.toInt < 8 then (oH (dU g3 0 15 (g3 5 (v2.toInt.toNat))) (fun g5 => if v3.toInt = (-1) then (oH (dU g5 0 16 0) (fun g8 => oP (f_X7_seatsOf v2 g8) (fun r9 => oH (dU g8 0 17 r9) (fun g10 => oH (dU g10 0 18 (g10 0 7)) (fun g11 => if v3.toInt = (-1) then (oH (dU g11 0 19 0) (fun g14 => oI (f_X7_read (g14 0 4) v1 g14) (fun r15 g16 => oP (f_X7_within r15 0 60) (fun r17 => some (r17, g16))))) else (oP (f_X7_apart v2 v3) (fun r18 => oH (dU g11 0 19 r18) (fun g19 => oI (f_X7_read (g19 0 4) v1 g19) (fun r20 g21 => oP (f_X7_within r20 0 60) (fun r22 => some (r22, g21))))))))))) else (if 0 ≤ v3.toInt ∧ v3.toInt < 8 then (oH (dU g5 0 16 (g5 5 (v3.toInt.toNat))) (fun g24 => oP (f_X7_seatsOf v2 g24) (fun r25 => oH (dU g24 0 17 r25) (fun g26 => oH (dU g26 0 18 (g26 0 7)) (fun g27 => if v3.toInt = (-1) then (oH (dU g27 0 19 0) (fun g30 => oI (f_X7_read (g30 0 4) v1 g30) (fun r31 g32 => oP (f_X7_within r31 0 60) (fun r33 => some (r33, g32))))) else (oP (f_X7_apart v2 v3) (fun r34 => oH (dU g27 0 19 r34) (fun g35 => oI (f_X7_read (g35 0 4) v1 g35) (fun r36 g37 => oP (f_X7_within r36 0 60) (fun r38 => some (r38, g37))))))))))) else none))) else none)) else (oP (f_X7_strengthOf v2 v3 h) (fun r39 => oH (dU h 0 14 r39) (fun g40 => if 0 ≤ v2.toInt ∧ v2.toInt < 8 then (oH (dU g40 0 15 (g40 5 (v2.toInt.toNat))) (fun g42 => if v3.toInt = (-1) then (oH (dU g42 0 16 0) (fun g45 => oP (f_X7_seatsOf v2 g45) (fun r46 => oH (dU g45 0 17 r46) (fun g47 => oH (dU g47 0 18 (g47 0 7)) (fun g48 => if v3.toInt = (-1) then (oH (dU g48 0 19 0) (fun g51 => oI (f_X7_read (g51 0 4) v1 g51) (fun r52 g53 => oP (f_X7_within r52 0 60) (fun r54 => some (r54, g53))))) else (oP (f_X7_apart v2 v3) (fun r55 => oH (dU g48 0 19 r55) (fun g56 => oI (f_X7_read (g56 0 4) v1 g56) (fun r57 g58 => oP (f_X7_within r57 0 60) (fun r59 => some (r59, g58))))))))))) else (if 0 ≤ v3.toInt ∧ v3.toInt < 8 then (oH (dU g42 0 16 (g42 5 (v3.toInt.toNat))) (fun g61 => oP (f_X7_seatsOf v2 g61) (fun r62 => oH (dU g61 0 17 r62) (fun g63 => oH (dU g63 0 18 (g63 0 7)) (fun g64 => if v3.toInt = (-1) then (oH (dU g64 0 19 0) (fun g67 => oI (f_X7_read (g67 0 4) v1 g67) (fun r68 g69 => oP (f_X7_within r68 0 60) (fun r70 => some (r70, g69))))) else (oP (f_X7_apart v2 v3) (fun r71 => oH (dU g64 0 19 r71) (fun g72 => oI (f_X7_read (g72 0 4) v1 g72) (fun r73 g74 => oP (f_X7_within r73 0 60) (fun r75 => some (r75, g74))))))))))) else none))) else none)))
theorem m_X7_says {d : Nat} (hd : 43 ≤ d) (v1 : Int32) (v2 : Int32) (v3 : Int32) (h : dH) : dX shM d 182 [.ref 0, .int v1, .int v2, .int v3] dI (f_X7_says v1 v2 v3 h) h := by
  obtain ⟨e, rfl⟩ : ∃ e, d = e + 1 := ⟨d - 1, by omega⟩
  have hd : 42 ≤ e := by omega
  refine dX_of (mj := mj182) (lo := [some (.ref 0), some (.int v1), some (.int v2), some (.int v3)]) rfl (Nat.le_of_ble_eq_true rfl) rfl ?_
  unfold f_X7_says
  refine y_aload_n (q := 1) rfl rfl rfl ?_
  refine y_iload_n (q := 2) rfl rfl rfl ?_
  refine y_iconst (x := (-1)) (q := 3) rfl (by decide) rfl ?_
  refine y_ne (q := 10) (q' := 6) rfl rfl (by decide) rfl rfl (fun c1 => ?_) (fun c2 => ?_)
  · skip
    refine y_iconst (x := 0) (q := 7) rfl (by decide) rfl ?_
    refine y_goto (q := 16) rfl rfl ?_
    refine y_putI (q := 19) rfl rfl (by decide) atM0 rfl rfl rfl rfl (fun g3 => ?_)
    refine y_aload_n (q := 20) rfl rfl rfl ?_
    refine y_aload_n (q := 21) rfl rfl rfl ?_
    refine y_getR (b := 5) (q := 24) rfl rfl (by decide) atM0 rfl rfl ?_
    refine y_iload_n (q := 25) rfl rfl rfl ?_
    refine y_guard (fun c4 => ?_)
    refine y_iald (n := 8) (N := 8) (X := v2.toInt) (K := v2.toInt.toNat) (q := 26) hbM rfl atM5 rfl rfl c4 rfl rfl ?_
    refine y_putI (q := 29) rfl rfl (by decide) atM0 rfl rfl rfl rfl (fun g5 => ?_)
    refine y_aload_n (q := 30) rfl rfl rfl ?_
    refine y_iload_n (q := 31) rfl rfl rfl ?_
    refine y_iconst (x := (-1)) (q := 32) rfl (by decide) rfl ?_
    refine y_ne (q := 39) (q' := 35) rfl rfl (by decide) rfl rfl (fun c6 => ?_) (fun c7 => ?_)
    · skip
      refine y_iconst (x := 0) (q := 36) rfl (by decide) rfl ?_
      refine y_goto (q := 45) rfl rfl ?_
      refine y_putI (q := 48) rfl rfl (by decide) atM0 rfl rfl rfl rfl (fun g8 => ?_)
      refine y_aload_n (q := 49) rfl rfl rfl ?_
      refine y_aload_n (q := 50) rfl rfl rfl ?_
      refine y_iload_n (q := 51) rfl rfl rfl ?_
      refine y_callP (I := .invokevirtual 148) (idx := 148) (KD := 1) (J := 142) (mj := mj132) (as := [.ref 0, .int v2]) (r := [.ref 0]) (q := 54) rfl (fun _ _ _ _ _ _ => rfl) rfl (by decide) rfl rfl rfl rfl rfl (Nat.le_of_ble_eq_true rfl) (d_recv atM0 (by decide) (by decide)) rfl (m_X7_seatsOf (Nat.le_trans (by decide) hd) v2 g8) (fun r9 => ?_)
      refine y_putI (q := 57) rfl rfl (by decide) atM0 rfl rfl rfl rfl (fun g10 => ?_)
      refine y_aload_n (q := 58) rfl rfl rfl ?_
      refine y_aload_n (q := 59) rfl rfl rfl ?_
      refine y_getI (q := 62) rfl rfl (by decide) atM0 rfl rfl ?_
      refine y_putI (q := 65) rfl rfl (by decide) atM0 rfl rfl rfl rfl (fun g11 => ?_)
      refine y_aload_n (q := 66) rfl rfl rfl ?_
      refine y_iload_n (q := 67) rfl rfl rfl ?_
      refine y_iconst (x := (-1)) (q := 68) rfl (by decide) rfl ?_
      refine y_ne (q := 75) (q' := 71) rfl rfl (by decide) rfl rfl (fun c12 => ?_) (fun c13 => ?_)
      · skip
        refine y_iconst (x := 0) (q := 72) rfl (by decide) rfl ?_
        refine y_goto (q := 80) rfl rfl ?_
        refine y_putI (q := 83) rfl rfl (by decide) atM0 rfl rfl rfl rfl (fun g14 => ?_)
        refine y_aload_n (q := 84) rfl rfl rfl ?_
        refine y_aload_n (q := 85) rfl rfl rfl ?_
        refine y_getI (q := 88) rfl rfl (by decide) atM0 rfl rfl ?_
        refine y_iload_n (q := 89) rfl rfl rfl ?_
        refine y_callI (I := .invokevirtual 361) (idx := 361) (KD := 1) (J := 189) (mj := mj179) (as := [.ref 0, .int (g14 0 4), .int v1]) (r := []) (q := 92) rfl (fun _ _ _ _ _ _ => rfl) rfl (by decide) rfl rfl rfl rfl rfl (Nat.le_of_ble_eq_true rfl) (d_recv atM0 (by decide) (by decide)) rfl (m_X7_read (Nat.le_trans (by decide) hd) (g14 0 4) v1 g14) (fun r15 g16 => ?_)
        refine y_iconst (x := 0) (q := 93) rfl (by decide) rfl ?_
        refine y_bipush (x := 60) (q := 95) rfl (by decide) rfl ?_
        refine y_callP (I := .invokestatic 127) (idx := 127) (KD := 0) (J := 129) (mj := mj119) (as := [.int r15, .int 0, .int 60]) (r := []) (q := 98) rfl (fun _ _ _ _ _ _ => rfl) rfl (by decide) rfl rfl rfl rfl rfl (Nat.le_of_ble_eq_true rfl) rfl rfl (m_X7_within (Nat.le_trans (by decide) hd) r15 0 60 g16) (fun r17 => ?_)
        exact y_retI rfl (by decide) rfl rfl
      · skip
        refine y_iload_n (q := 76) rfl rfl rfl ?_
        refine y_iload_n (q := 77) rfl rfl rfl ?_
        refine y_callP (I := .invokestatic 364) (idx := 364) (KD := 0) (J := 193) (mj := mj183) (as := [.int v2, .int v3]) (r := [.ref 0]) (q := 80) rfl (fun _ _ _ _ _ _ => rfl) rfl (by decide) rfl rfl rfl rfl rfl (Nat.le_of_ble_eq_true rfl) rfl rfl (m_X7_apart (Nat.le_trans (by decide) hd) v2 v3 g11) (fun r18 => ?_)
        refine y_putI (q := 83) rfl rfl (by decide) atM0 rfl rfl rfl rfl (fun g19 => ?_)
        refine y_aload_n (q := 84) rfl rfl rfl ?_
        refine y_aload_n (q := 85) rfl rfl rfl ?_
        refine y_getI (q := 88) rfl rfl (by decide) atM0 rfl rfl ?_
        refine y_iload_n (q := 89) rfl rfl rfl ?_
        refine y_callI (I := .invokevirtual 361) (idx := 361) (KD := 1) (J := 189) (mj := mj179) (as := [.ref 0, .int (g19 0 4), .int v1]) (r := []) (q := 92) rfl (fun _ _ _ _ _ _ => rfl) rfl (by decide) rfl rfl rfl rfl rfl (Nat.le_of_ble_eq_true rfl) (d_recv atM0 (by decide) (by decide)) rfl (m_X7_read (Nat.le_trans (by decide) hd) (g19 0 4) v1 g19) (fun r20 g21 => ?_)
        refine y_iconst (x := 0) (q := 93) rfl (by decide) rfl ?_
        refine y_bipush (x := 60) (q := 95) rfl (by decide) rfl ?_
        refine y_callP (I := .invokestatic 127) (idx := 127) (KD := 0) (J := 129) (mj := mj119) (as := [.int r20, .int 0, .int 60]) (r := []) (q := 98) rfl (fun _ _ _ _ _ _ => rfl) rfl (by decide) rfl rfl rfl rfl rfl (Nat.le_of_ble_eq_true rfl) rfl rfl (m_X7_within (Nat.le_trans (by decide) hd) r20 0 60 g21) (fun r22 => ?_)
        exact y_retI rfl (by decide) rfl rfl
    · skip
      refine y_aload_n (q := 40) rfl rfl rfl ?_
      refine y_getR (b := 5) (q := 43) rfl rfl (by decide) atM0 rfl rfl ?_
      refine y_iload_n (q := 44) rfl rfl rfl ?_
      refine y_guard (fun c23 => ?_)
      refine y_iald (n := 8) (N := 8) (X := v3.toInt) (K := v3.toInt.toNat) (q := 45) hbM rfl atM5 rfl rfl c23 rfl rfl ?_
      refine y_putI (q := 48) rfl rfl (by decide) atM0 rfl rfl rfl rfl (fun g24 => ?_)
      refine y_aload_n (q := 49) rfl rfl rfl ?_
      refine y_aload_n (q := 50) rfl rfl rfl ?_
      refine y_iload_n (q := 51) rfl rfl rfl ?_
      refine y_callP (I := .invokevirtual 148) (idx := 148) (KD := 1) (J := 142) (mj := mj132) (as := [.ref 0, .int v2]) (r := [.ref 0]) (q := 54) rfl (fun _ _ _ _ _ _ => rfl) rfl (by decide) rfl rfl rfl rfl rfl (Nat.le_of_ble_eq_true rfl) (d_recv atM0 (by decide) (by decide)) rfl (m_X7_seatsOf (Nat.le_trans (by decide) hd) v2 g24) (fun r25 => ?_)
      refine y_putI (q := 57) rfl rfl (by decide) atM0 rfl rfl rfl rfl (fun g26 => ?_)
      refine y_aload_n (q := 58) rfl rfl rfl ?_
      refine y_aload_n (q := 59) rfl rfl rfl ?_
      refine y_getI (q := 62) rfl rfl (by decide) atM0 rfl rfl ?_
      refine y_putI (q := 65) rfl rfl (by decide) atM0 rfl rfl rfl rfl (fun g27 => ?_)
      refine y_aload_n (q := 66) rfl rfl rfl ?_
      refine y_iload_n (q := 67) rfl rfl rfl ?_
      refine y_iconst (x := (-1)) (q := 68) rfl (by decide) rfl ?_
      refine y_ne (q := 75) (q' := 71) rfl rfl (by decide) rfl rfl (fun c28 => ?_) (fun c29 => ?_)
      · skip
        refine y_iconst (x := 0) (q := 72) rfl (by decide) rfl ?_
        refine y_goto (q := 80) rfl rfl ?_
        refine y_putI (q := 83) rfl rfl (by decide) atM0 rfl rfl rfl rfl (fun g30 => ?_)
        refine y_aload_n (q := 84) rfl rfl rfl ?_
        refine y_aload_n (q := 85) rfl rfl rfl ?_
        refine y_getI (q := 88) rfl rfl (by decide) atM0 rfl rfl ?_
        refine y_iload_n (q := 89) rfl rfl rfl ?_
        refine y_callI (I := .invokevirtual 361) (idx := 361) (KD := 1) (J := 189) (mj := mj179) (as := [.ref 0, .int (g30 0 4), .int v1]) (r := []) (q := 92) rfl (fun _ _ _ _ _ _ => rfl) rfl (by decide) rfl rfl rfl rfl rfl (Nat.le_of_ble_eq_true rfl) (d_recv atM0 (by decide) (by decide)) rfl (m_X7_read (Nat.le_trans (by decide) hd) (g30 0 4) v1 g30) (fun r31 g32 => ?_)
        refine y_iconst (x := 0) (q := 93) rfl (by decide) rfl ?_
        refine y_bipush (x := 60) (q := 95) rfl (by decide) rfl ?_
        refine y_callP (I := .invokestatic 127) (idx := 127) (KD := 0) (J := 129) (mj := mj119) (as := [.int r31, .int 0, .int 60]) (r := []) (q := 98) rfl (fun _ _ _ _ _ _ => rfl) rfl (by decide) rfl rfl rfl rfl rfl (Nat.le_of_ble_eq_true rfl) rfl rfl (m_X7_within (Nat.le_trans (by decide) hd) r31 0 60 g32) (fun r33 => ?_)
        exact y_retI rfl (by decide) rfl rfl
      · skip
        refine y_iload_n (q := 76) rfl rfl rfl ?_
        refine y_iload_n (q := 77) rfl rfl rfl ?_
        refine y_callP (I := .invokestatic 364) (idx := 364) (KD := 0) (J := 193) (mj := mj183) (as := [.int v2, .int v3]) (r := [.ref 0]) (q := 80) rfl (fun _ _ _ _ _ _ => rfl) rfl (by decide) rfl rfl rfl rfl rfl (Nat.le_of_ble_eq_true rfl) rfl rfl (m_X7_apart (Nat.le_trans (by decide) hd) v2 v3 g27) (fun r34 => ?_)
        refine y_putI (q := 83) rfl rfl (by decide) atM0 rfl rfl rfl rfl (fun g35 => ?_)
        refine y_aload_n (q := 84) rfl rfl rfl ?_
        refine y_aload_n (q := 85) rfl rfl rfl ?_
        refine y_getI (q := 88) rfl rfl (by decide) atM0 rfl rfl ?_
        refine y_iload_n (q := 89) rfl rfl rfl ?_
        refine y_callI (I := .invokevirtual 361) (idx := 361) (KD := 1) (J := 189) (mj := mj179) (as := [.ref 0, .int (g35 0 4), .int v1]) (r := []) (q := 92) rfl (fun _ _ _ _ _ _ => rfl) rfl (by decide) rfl rfl rfl rfl rfl (Nat.le_of_ble_eq_true rfl) (d_recv atM0 (by decide) (by decide)) rfl (m_X7_read (Nat.le_trans (by decide) hd) (g35 0 4) v1 g35) (fun r36 g37 => ?_)
        refine y_iconst (x := 0) (q := 93) rfl (by decide) rfl ?_
        refine y_bipush (x := 60) (q := 95) rfl (by decide) rfl ?_
        refine y_callP (I := .invokestatic 127) (idx := 127) (KD := 0) (J := 129) (mj := mj119) (as := [.int r36, .int 0, .int 60]) (r := []) (q := 98) rfl (fun _ _ _ _ _ _ => rfl) rfl (by decide) rfl rfl rfl rfl rfl (Nat.le_of_ble_eq_true rfl) rfl rfl (m_X7_within (Nat.le_trans (by decide) hd) r36 0 60 g37) (fun r38 => ?_)
        exact y_retI rfl (by decide) rfl rfl
  · skip
    refine y_aload_n (q := 11) rfl rfl rfl ?_
    refine y_iload_n (q := 12) rfl rfl rfl ?_
    refine y_iload_n (q := 13) rfl rfl rfl ?_
    refine y_callP (I := .invokevirtual 139) (idx := 139) (KD := 1) (J := 136) (mj := mj126) (as := [.ref 0, .int v2, .int v3]) (r := [.ref 0]) (q := 16) rfl (fun _ _ _ _ _ _ => rfl) rfl (by decide) rfl rfl rfl rfl rfl (Nat.le_of_ble_eq_true rfl) (d_recv atM0 (by decide) (by decide)) rfl (m_X7_strengthOf (Nat.le_trans (by decide) hd) v2 v3 h) (fun r39 => ?_)
    refine y_putI (q := 19) rfl rfl (by decide) atM0 rfl rfl rfl rfl (fun g40 => ?_)
    refine y_aload_n (q := 20) rfl rfl rfl ?_
    refine y_aload_n (q := 21) rfl rfl rfl ?_
    refine y_getR (b := 5) (q := 24) rfl rfl (by decide) atM0 rfl rfl ?_
    refine y_iload_n (q := 25) rfl rfl rfl ?_
    refine y_guard (fun c41 => ?_)
    refine y_iald (n := 8) (N := 8) (X := v2.toInt) (K := v2.toInt.toNat) (q := 26) hbM rfl atM5 rfl rfl c41 rfl rfl ?_
    refine y_putI (q := 29) rfl rfl (by decide) atM0 rfl rfl rfl rfl (fun g42 => ?_)
    refine y_aload_n (q := 30) rfl rfl rfl ?_
    refine y_iload_n (q := 31) rfl rfl rfl ?_
    refine y_iconst (x := (-1)) (q := 32) rfl (by decide) rfl ?_
    refine y_ne (q := 39) (q' := 35) rfl rfl (by decide) rfl rfl (fun c43 => ?_) (fun c44 => ?_)
    · skip
      refine y_iconst (x := 0) (q := 36) rfl (by decide) rfl ?_
      refine y_goto (q := 45) rfl rfl ?_
      refine y_putI (q := 48) rfl rfl (by decide) atM0 rfl rfl rfl rfl (fun g45 => ?_)
      refine y_aload_n (q := 49) rfl rfl rfl ?_
      refine y_aload_n (q := 50) rfl rfl rfl ?_
      refine y_iload_n (q := 51) rfl rfl rfl ?_
      refine y_callP (I := .invokevirtual 148) (idx := 148) (KD := 1) (J := 142) (mj := mj132) (as := [.ref 0, .int v2]) (r := [.ref 0]) (q := 54) rfl (fun _ _ _ _ _ _ => rfl) rfl (by decide) rfl rfl rfl rfl rfl (Nat.le_of_ble_eq_true rfl) (d_recv atM0 (by decide) (by decide)) rfl (m_X7_seatsOf (Nat.le_trans (by decide) hd) v2 g45) (fun r46 => ?_)
      refine y_putI (q := 57) rfl rfl (by decide) atM0 rfl rfl rfl rfl (fun g47 => ?_)
      refine y_aload_n (q := 58) rfl rfl rfl ?_
      refine y_aload_n (q := 59) rfl rfl rfl ?_
      refine y_getI (q := 62) rfl rfl (by decide) atM0 rfl rfl ?_
      refine y_putI (q := 65) rfl rfl (by decide) atM0 rfl rfl rfl rfl (fun g48 => ?_)
      refine y_aload_n (q := 66) rfl rfl rfl ?_
      refine y_iload_n (q := 67) rfl rfl rfl ?_
      refine y_iconst (x := (-1)) (q := 68) rfl (by decide) rfl ?_
      refine y_ne (q := 75) (q' := 71) rfl rfl (by decide) rfl rfl (fun c49 => ?_) (fun c50 => ?_)
      · skip
        refine y_iconst (x := 0) (q := 72) rfl (by decide) rfl ?_
        refine y_goto (q := 80) rfl rfl ?_
        refine y_putI (q := 83) rfl rfl (by decide) atM0 rfl rfl rfl rfl (fun g51 => ?_)
        refine y_aload_n (q := 84) rfl rfl rfl ?_
        refine y_aload_n (q := 85) rfl rfl rfl ?_
        refine y_getI (q := 88) rfl rfl (by decide) atM0 rfl rfl ?_
        refine y_iload_n (q := 89) rfl rfl rfl ?_
        refine y_callI (I := .invokevirtual 361) (idx := 361) (KD := 1) (J := 189) (mj := mj179) (as := [.ref 0, .int (g51 0 4), .int v1]) (r := []) (q := 92) rfl (fun _ _ _ _ _ _ => rfl) rfl (by decide) rfl rfl rfl rfl rfl (Nat.le_of_ble_eq_true rfl) (d_recv atM0 (by decide) (by decide)) rfl (m_X7_read (Nat.le_trans (by decide) hd) (g51 0 4) v1 g51) (fun r52 g53 => ?_)
        refine y_iconst (x := 0) (q := 93) rfl (by decide) rfl ?_
        refine y_bipush (x := 60) (q := 95) rfl (by decide) rfl ?_
        refine y_callP (I := .invokestatic 127) (idx := 127) (KD := 0) (J := 129) (mj := mj119) (as := [.int r52, .int 0, .int 60]) (r := []) (q := 98) rfl (fun _ _ _ _ _ _ => rfl) rfl (by decide) rfl rfl rfl rfl rfl (Nat.le_of_ble_eq_true rfl) rfl rfl (m_X7_within (Nat.le_trans (by decide) hd) r52 0 60 g53) (fun r54 => ?_)
        exact y_retI rfl (by decide) rfl rfl
      · skip
        refine y_iload_n (q := 76) rfl rfl rfl ?_
        refine y_iload_n (q := 77) rfl rfl rfl ?_
        refine y_callP (I := .invokestatic 364) (idx := 364) (KD := 0) (J := 193) (mj := mj183) (as := [.int v2, .int v3]) (r := [.ref 0]) (q := 80) rfl (fun _ _ _ _ _ _ => rfl) rfl (by decide) rfl rfl rfl rfl rfl (Nat.le_of_ble_eq_true rfl) rfl rfl (m_X7_apart (Nat.le_trans (by decide) hd) v2 v3 g48) (fun r55 => ?_)
        refine y_putI (q := 83) rfl rfl (by decide) atM0 rfl rfl rfl rfl (fun g56 => ?_)
        refine y_aload_n (q := 84) rfl rfl rfl ?_
        refine y_aload_n (q := 85) rfl rfl rfl ?_
        refine y_getI (q := 88) rfl rfl (by decide) atM0 rfl rfl ?_
        refine y_iload_n (q := 89) rfl rfl rfl ?_
        refine y_callI (I := .invokevirtual 361) (idx := 361) (KD := 1) (J := 189) (mj := mj179) (as := [.ref 0, .int (g56 0 4), .int v1]) (r := []) (q := 92) rfl (fun _ _ _ _ _ _ => rfl) rfl (by decide) rfl rfl rfl rfl rfl (Nat.le_of_ble_eq_true rfl) (d_recv atM0 (by decide) (by decide)) rfl (m_X7_read (Nat.le_trans (by decide) hd) (g56 0 4) v1 g56) (fun r57 g58 => ?_)
        refine y_iconst (x := 0) (q := 93) rfl (by decide) rfl ?_
        refine y_bipush (x := 60) (q := 95) rfl (by decide) rfl ?_
        refine y_callP (I := .invokestatic 127) (idx := 127) (KD := 0) (J := 129) (mj := mj119) (as := [.int r57, .int 0, .int 60]) (r := []) (q := 98) rfl (fun _ _ _ _ _ _ => rfl) rfl (by decide) rfl rfl rfl rfl rfl (Nat.le_of_ble_eq_true rfl) rfl rfl (m_X7_within (Nat.le_trans (by decide) hd) r57 0 60 g58) (fun r59 => ?_)
        exact y_retI rfl (by decide) rfl rfl
    · skip
      refine y_aload_n (q := 40) rfl rfl rfl ?_
      refine y_getR (b := 5) (q := 43) rfl rfl (by decide) atM0 rfl rfl ?_
      refine y_iload_n (q := 44) rfl rfl rfl ?_
      refine y_guard (fun c60 => ?_)
      refine y_iald (n := 8) (N := 8) (X := v3.toInt) (K := v3.toInt.toNat) (q := 45) hbM rfl atM5 rfl rfl c60 rfl rfl ?_
      refine y_putI (q := 48) rfl rfl (by decide) atM0 rfl rfl rfl rfl (fun g61 => ?_)
      refine y_aload_n (q := 49) rfl rfl rfl ?_
      refine y_aload_n (q := 50) rfl rfl rfl ?_
      refine y_iload_n (q := 51) rfl rfl rfl ?_
      refine y_callP (I := .invokevirtual 148) (idx := 148) (KD := 1) (J := 142) (mj := mj132) (as := [.ref 0, .int v2]) (r := [.ref 0]) (q := 54) rfl (fun _ _ _ _ _ _ => rfl) rfl (by decide) rfl rfl rfl rfl rfl (Nat.le_of_ble_eq_true rfl) (d_recv atM0 (by decide) (by decide)) rfl (m_X7_seatsOf (Nat.le_trans (by decide) hd) v2 g61) (fun r62 => ?_)
      refine y_putI (q := 57) rfl rfl (by decide) atM0 rfl rfl rfl rfl (fun g63 => ?_)
      refine y_aload_n (q := 58) rfl rfl rfl ?_
      refine y_aload_n (q := 59) rfl rfl rfl ?_
      refine y_getI (q := 62) rfl rfl (by decide) atM0 rfl rfl ?_
      refine y_putI (q := 65) rfl rfl (by decide) atM0 rfl rfl rfl rfl (fun g64 => ?_)
      refine y_aload_n (q := 66) rfl rfl rfl ?_
      refine y_iload_n (q := 67) rfl rfl rfl ?_
      refine y_iconst (x := (-1)) (q := 68) rfl (by decide) rfl ?_
      refine y_ne (q := 75) (q' := 71) rfl rfl (by decide) rfl rfl (fun c65 => ?_) (fun c66 => ?_)
      · skip
        refine y_iconst (x := 0) (q := 72) rfl (by decide) rfl ?_
        refine y_goto (q := 80) rfl rfl ?_
        refine y_putI (q := 83) rfl rfl (by decide) atM0 rfl rfl rfl rfl (fun g67 => ?_)
        refine y_aload_n (q := 84) rfl rfl rfl ?_
        refine y_aload_n (q := 85) rfl rfl rfl ?_
        refine y_getI (q := 88) rfl rfl (by decide) atM0 rfl rfl ?_
        refine y_iload_n (q := 89) rfl rfl rfl ?_
        refine y_callI (I := .invokevirtual 361) (idx := 361) (KD := 1) (J := 189) (mj := mj179) (as := [.ref 0, .int (g67 0 4), .int v1]) (r := []) (q := 92) rfl (fun _ _ _ _ _ _ => rfl) rfl (by decide) rfl rfl rfl rfl rfl (Nat.le_of_ble_eq_true rfl) (d_recv atM0 (by decide) (by decide)) rfl (m_X7_read (Nat.le_trans (by decide) hd) (g67 0 4) v1 g67) (fun r68 g69 => ?_)
        refine y_iconst (x := 0) (q := 93) rfl (by decide) rfl ?_
        refine y_bipush (x := 60) (q := 95) rfl (by decide) rfl ?_
        refine y_callP (I := .invokestatic 127) (idx := 127) (KD := 0) (J := 129) (mj := mj119) (as := [.int r68, .int 0, .int 60]) (r := []) (q := 98) rfl (fun _ _ _ _ _ _ => rfl) rfl (by decide) rfl rfl rfl rfl rfl (Nat.le_of_ble_eq_true rfl) rfl rfl (m_X7_within (Nat.le_trans (by decide) hd) r68 0 60 g69) (fun r70 => ?_)
        exact y_retI rfl (by decide) rfl rfl
      · skip
        refine y_iload_n (q := 76) rfl rfl rfl ?_
        refine y_iload_n (q := 77) rfl rfl rfl ?_
        refine y_callP (I := .invokestatic 364) (idx := 364) (KD := 0) (J := 193) (mj := mj183) (as := [.int v2, .int v3]) (r := [.ref 0]) (q := 80) rfl (fun _ _ _ _ _ _ => rfl) rfl (by decide) rfl rfl rfl rfl rfl (Nat.le_of_ble_eq_true rfl) rfl rfl (m_X7_apart (Nat.le_trans (by decide) hd) v2 v3 g64) (fun r71 => ?_)
        refine y_putI (q := 83) rfl rfl (by decide) atM0 rfl rfl rfl rfl (fun g72 => ?_)
        refine y_aload_n (q := 84) rfl rfl rfl ?_
        refine y_aload_n (q := 85) rfl rfl rfl ?_
        refine y_getI (q := 88) rfl rfl (by decide) atM0 rfl rfl ?_
        refine y_iload_n (q := 89) rfl rfl rfl ?_
        refine y_callI (I := .invokevirtual 361) (idx := 361) (KD := 1) (J := 189) (mj := mj179) (as := [.ref 0, .int (g72 0 4), .int v1]) (r := []) (q := 92) rfl (fun _ _ _ _ _ _ => rfl) rfl (by decide) rfl rfl rfl rfl rfl (Nat.le_of_ble_eq_true rfl) (d_recv atM0 (by decide) (by decide)) rfl (m_X7_read (Nat.le_trans (by decide) hd) (g72 0 4) v1 g72) (fun r73 g74 => ?_)
        refine y_iconst (x := 0) (q := 93) rfl (by decide) rfl ?_
        refine y_bipush (x := 60) (q := 95) rfl (by decide) rfl ?_
        refine y_callP (I := .invokestatic 127) (idx := 127) (KD := 0) (J := 129) (mj := mj119) (as := [.int r73, .int 0, .int 60]) (r := []) (q := 98) rfl (fun _ _ _ _ _ _ => rfl) rfl (by decide) rfl rfl rfl rfl rfl (Nat.le_of_ble_eq_true rfl) rfl rfl (m_X7_within (Nat.le_trans (by decide) hd) r73 0 60 g74) (fun r75 => ?_)
        exact y_retI rfl (by decide) rfl rfl
def f_X7_soundsOf (v1 : Int32) (h : dH) : Option (Int32 × dH) := if 0 ≤ v1.toInt ∧ v1.toInt < 8 then (oI (f_X7_says 2 v1 (-1) h) (fun r2 g3 => if (h 4 (v1.toInt.toNat)).toInt = 1 then (some ((r2 + 5), g3)) else (if (h 4 (v1.toInt.toNat)).toInt = 3 then (some ((2 * (r2 + 5)), g3)) else (if (h 4 (v1.toInt.toNat)).toInt = 2 then (some (0, g3)) else (if (h 4 (v1.toInt.toNat)).toInt = 4 then (some (0, g3)) else (if (h 4 (v1.toInt.toNat)).toInt = 5 then (if 0 ≤ v1.toInt ∧ v1.toInt < 8 then (some ((g3 5 (v1.toInt.toNat)), g3)) else none) else (some (r2, g3)))))))) else none
theorem m_X7_soundsOf {d : Nat} (hd : 44 ≤ d) (v1 : Int32) (h : dH) : dX shM d 186 [.ref 0, .int v1] dI (f_X7_soundsOf v1 h) h := by
  obtain ⟨e, rfl⟩ : ∃ e, d = e + 1 := ⟨d - 1, by omega⟩
  have hd : 43 ≤ e := by omega
  refine dX_of (mj := mj186) (lo := [some (.ref 0), some (.int v1), none, none]) rfl (Nat.le_of_ble_eq_true rfl) rfl ?_
  unfold f_X7_soundsOf
  refine y_aload_n (q := 1) rfl rfl rfl ?_
  refine y_getR (b := 4) (q := 4) rfl rfl (by decide) atM0 rfl rfl ?_
  refine y_iload_n (q := 5) rfl rfl rfl ?_
  refine y_guard (fun c1 => ?_)
  refine y_iald (n := 8) (N := 8) (X := v1.toInt) (K := v1.toInt.toNat) (q := 6) hbM rfl atM4 rfl rfl c1 rfl rfl ?_
  refine y_istore_n (lo' := [some (.ref 0), some (.int v1), some (.int (h 4 (v1.toInt.toNat))), none]) (q := 7) rfl (Nat.le_of_ble_eq_true rfl) rfl rfl ?_
  refine y_aload_n (q := 8) rfl rfl rfl ?_
  refine y_iconst (x := 2) (q := 9) rfl (by decide) rfl ?_
  refine y_iload_n (q := 10) rfl rfl rfl ?_
  refine y_iconst (x := (-1)) (q := 11) rfl (by decide) rfl ?_
  refine y_callI (I := .invokevirtual 367) (idx := 367) (KD := 1) (J := 192) (mj := mj182) (as := [.ref 0, .int 2, .int v1, .int (-1)]) (r := []) (q := 14) rfl (fun _ _ _ _ _ _ => rfl) rfl (by decide) rfl rfl rfl rfl rfl (Nat.le_of_ble_eq_true rfl) (d_recv atM0 (by decide) (by decide)) rfl (m_X7_says (Nat.le_trans (by decide) hd) 2 v1 (-1) h) (fun r2 g3 => ?_)
  refine y_istore_n (lo' := [some (.ref 0), some (.int v1), some (.int (h 4 (v1.toInt.toNat))), some (.int r2)]) (q := 15) rfl (Nat.le_of_ble_eq_true rfl) rfl rfl ?_
  refine y_iload_n (q := 16) rfl rfl rfl ?_
  refine y_iconst (x := 1) (q := 17) rfl (by decide) rfl ?_
  refine y_ne (q := 26) (q' := 20) rfl rfl (by decide) rfl rfl (fun c4 => ?_) (fun c5 => ?_)
  · skip
    refine y_iload_n (q := 21) rfl rfl rfl ?_
    refine y_iconst (x := 5) (q := 22) rfl (by decide) rfl ?_
    refine y_iadd (q := 23) rfl rfl ?_
    refine y_goto (q := 68) rfl rfl ?_
    exact y_retI rfl (by decide) rfl rfl
  · skip
    refine y_iload_n (q := 27) rfl rfl rfl ?_
    refine y_iconst (x := 3) (q := 28) rfl (by decide) rfl ?_
    refine y_ne (q := 39) (q' := 31) rfl rfl (by decide) rfl rfl (fun c6 => ?_) (fun c7 => ?_)
    · skip
      refine y_iconst (x := 2) (q := 32) rfl (by decide) rfl ?_
      refine y_iload_n (q := 33) rfl rfl rfl ?_
      refine y_iconst (x := 5) (q := 34) rfl (by decide) rfl ?_
      refine y_iadd (q := 35) rfl rfl ?_
      refine y_imul (q := 36) rfl rfl ?_
      refine y_goto (q := 68) rfl rfl ?_
      exact y_retI rfl (by decide) rfl rfl
    · skip
      refine y_iload_n (q := 40) rfl rfl rfl ?_
      refine y_iconst (x := 2) (q := 41) rfl (by decide) rfl ?_
      refine y_eq (q := 49) (q' := 44) rfl rfl (by decide) rfl rfl (fun c8 => ?_) (fun c9 => ?_)
      · skip
        refine y_iconst (x := 0) (q := 50) rfl (by decide) rfl ?_
        refine y_goto (q := 68) rfl rfl ?_
        exact y_retI rfl (by decide) rfl rfl
      · skip
        refine y_iload_n (q := 45) rfl rfl rfl ?_
        refine y_iconst (x := 4) (q := 46) rfl (by decide) rfl ?_
        refine y_ne (q := 53) (q' := 49) rfl rfl (by decide) rfl rfl (fun c10 => ?_) (fun c11 => ?_)
        · skip
          refine y_iconst (x := 0) (q := 50) rfl (by decide) rfl ?_
          refine y_goto (q := 68) rfl rfl ?_
          exact y_retI rfl (by decide) rfl rfl
        · skip
          refine y_iload_n (q := 54) rfl rfl rfl ?_
          refine y_iconst (x := 5) (q := 55) rfl (by decide) rfl ?_
          refine y_ne (q := 67) (q' := 58) rfl rfl (by decide) rfl rfl (fun c12 => ?_) (fun c13 => ?_)
          · skip
            refine y_aload_n (q := 59) rfl rfl rfl ?_
            refine y_getR (b := 5) (q := 62) rfl rfl (by decide) atM0 rfl rfl ?_
            refine y_iload_n (q := 63) rfl rfl rfl ?_
            refine y_guard (fun c14 => ?_)
            refine y_iald (n := 8) (N := 8) (X := v1.toInt) (K := v1.toInt.toNat) (q := 64) hbM rfl atM5 rfl rfl c14 rfl rfl ?_
            refine y_goto (q := 68) rfl rfl ?_
            exact y_retI rfl (by decide) rfl rfl
          · skip
            refine y_iload_n (q := 68) rfl rfl rfl ?_
            exact y_retI rfl (by decide) rfl rfl
def l_X7_told_171 (v1 : Int32) (h : dH) (k : Int32 → Option (Int32 × dH)) : Nat → Int32 → Int32 → Option (Int32 × dH)
  | 0, _, _ => none
  | n + 1, v4, v5 => if v5.toInt < (h 0 13).toInt then (oP (f_X7_knows v1 v5 h) (fun r34 => if r34.toInt = 0 then (l_X7_told_171 v1 h k n (v4 + 0) (v5 + 1) ) else (l_X7_told_171 v1 h k n (v4 + 1) (v5 + 1) ))) else (k v4 )
theorem lz_X7_told_171 {d : Nat} (hd : 44 ≤ d) (v1 : Int32) (v2 : Int32) (v3 : Int32) (h : dH) (k : Int32 → Option (Int32 × dH)) (hk : ∀ (v4 : Int32) (w5 : Int32), dY shM d mj131 dI (k v4) 206 [some (.ref 0), some (.int v1), some (.int v2), some (.int v3), some (.int v4), some (.int w5)] [] h) : ∀ (n : Nat) (v4 : Int32) (v5 : Int32), dY shM d mj131 dI (l_X7_told_171 v1 h k n v4 v5) 171 [some (.ref 0), some (.int v1), some (.int v2), some (.int v3), some (.int v4), some (.int v5)] [] h
  | 0, _, _ => dY_none
  | n + 1, v4, v5 => by
    rw [l_X7_told_171]
    refine y_iload (q := 173) rfl rfl rfl ?_
    refine y_aload_n (q := 174) rfl rfl rfl ?_
    refine y_getI (q := 177) rfl rfl (by decide) atM0 rfl rfl ?_
    refine y_ge (q := 206) (q' := 180) rfl rfl rfl rfl rfl (fun c32 => ?_) (fun c33 => ?_)
    · skip
      refine y_iload (q := 182) rfl rfl rfl ?_
      refine y_aload_n (q := 183) rfl rfl rfl ?_
      refine y_iload_n (q := 184) rfl rfl rfl ?_
      refine y_iload (q := 186) rfl rfl rfl ?_
      refine y_callP (I := .invokevirtual 155) (idx := 155) (KD := 1) (J := 202) (mj := mj192) (as := [.ref 0, .int v1, .int v5]) (r := [.int v4]) (q := 189) rfl (fun _ _ _ _ _ _ => rfl) rfl (by decide) rfl rfl rfl rfl rfl (Nat.le_of_ble_eq_true rfl) (d_recv atM0 (by decide) (by decide)) rfl (m_X7_knows (Nat.le_trans (by decide) hd) v1 v5 h) (fun r34 => ?_)
      refine y_eq0 (q := 196) (q' := 192) rfl rfl rfl rfl (fun c35 => ?_) (fun c36 => ?_)
      · skip
        refine y_iconst (x := 0) (q := 197) rfl (by decide) rfl ?_
        refine y_iadd (q := 198) rfl rfl ?_
        refine y_istore (lo' := [some (.ref 0), some (.int v1), some (.int v2), some (.int v3), some (.int (v4 + 0)), some (.int v5)]) (q := 200) rfl (Nat.le_of_ble_eq_true rfl) rfl rfl ?_
        refine y_iinc (z := (v5 + 1)) (lo' := [some (.ref 0), some (.int v1), some (.int v2), some (.int v3), some (.int (v4 + 0)), some (.int (v5 + 1))]) (q := 203) rfl rfl (Nat.le_of_ble_eq_true rfl) (by rw [oi_1]) rfl rfl ?_
        refine y_goto (q := 171) rfl rfl ?_
        exact lz_X7_told_171 hd v1 v2 v3 h k hk n (v4 + 0) (v5 + 1)  
      · skip
        refine y_iconst (x := 1) (q := 193) rfl (by decide) rfl ?_
        refine y_goto (q := 197) rfl rfl ?_
        refine y_iadd (q := 198) rfl rfl ?_
        refine y_istore (lo' := [some (.ref 0), some (.int v1), some (.int v2), some (.int v3), some (.int (v4 + 1)), some (.int v5)]) (q := 200) rfl (Nat.le_of_ble_eq_true rfl) rfl rfl ?_
        refine y_iinc (z := (v5 + 1)) (lo' := [some (.ref 0), some (.int v1), some (.int v2), some (.int v3), some (.int (v4 + 1)), some (.int (v5 + 1))]) (q := 203) rfl rfl (Nat.le_of_ble_eq_true rfl) (by rw [oi_1]) rfl rfl ?_
        refine y_goto (q := 171) rfl rfl ?_
        exact lz_X7_told_171 hd v1 v2 v3 h k hk n (v4 + 1) (v5 + 1)  
    · skip
      exact hk v4 v5 
def f_X7_told (v1 : Int32) (v2 : Int32) (h : dH) : Option (Int32 × dH) := oP (f_X7_in (v2.toInt64) 10 17) (fun r1 => if r1.toInt = 0 then (oP (f_X7_in (v2.toInt64) 0 7) (fun r4 => if r4.toInt = 0 then (some ((-2), h)) else (if 1 < v2.toInt then (oP (f_X7_isHouse v1 h) (fun r9 => if r9.toInt = 0 then (some ((-2), h)) else (if v2.toInt < 5 then (if v2.toInt = 0 then (some ((h 0 7), h)) else (if v2.toInt = 1 then (some ((h 0 8), h)) else (if v2.toInt = 2 then (if 0 ≤ v1.toInt ∧ v1.toInt < 8 then (some ((h 5 (v1.toInt.toNat)), h)) else none) else (if v2.toInt = 3 then (if 0 ≤ v1.toInt ∧ v1.toInt < 8 then (some ((h 6 (v1.toInt.toNat)), h)) else none) else (if 0 ≤ v1.toInt ∧ v1.toInt < 8 then (some ((h 4 (v1.toInt.toNat)), h)) else none))))) else (if 5 < v2.toInt then (if v2.toInt = 6 then (oP (f_X7_seatsOf v1 h) (fun r29 => some (r29, h))) else (oI (f_X7_soundsOf v1 h) (fun r30 g31 => some (r30, g31)))) else (l_X7_told_171 v1 h (fun v4_37 => some (v4_37, h)) fuel0 0 0 ))))) else (if v2.toInt < 5 then (if v2.toInt = 0 then (some ((h 0 7), h)) else (if v2.toInt = 1 then (some ((h 0 8), h)) else (if v2.toInt = 2 then (if 0 ≤ v1.toInt ∧ v1.toInt < 8 then (some ((h 5 (v1.toInt.toNat)), h)) else none) else (if v2.toInt = 3 then (if 0 ≤ v1.toInt ∧ v1.toInt < 8 then (some ((h 6 (v1.toInt.toNat)), h)) else none) else (if 0 ≤ v1.toInt ∧ v1.toInt < 8 then (some ((h 4 (v1.toInt.toNat)), h)) else none))))) else (if 5 < v2.toInt then (if v2.toInt = 6 then (oP (f_X7_seatsOf v1 h) (fun r56 => some (r56, h))) else (oI (f_X7_soundsOf v1 h) (fun r57 g58 => some (r57, g58)))) else (l_X7_told_171 v1 h (fun v4_59 => some (v4_59, h)) fuel0 0 0 )))))) else (oP (f_X7_isHouse (v2 - 10) h) (fun r61 => if r61.toInt = 0 then (oP (f_X7_in (v2.toInt64) 0 7) (fun r64 => if r64.toInt = 0 then (some ((-2), h)) else (if 1 < v2.toInt then (oP (f_X7_isHouse v1 h) (fun r69 => if r69.toInt = 0 then (some ((-2), h)) else (if v2.toInt < 5 then (if v2.toInt = 0 then (some ((h 0 7), h)) else (if v2.toInt = 1 then (some ((h 0 8), h)) else (if v2.toInt = 2 then (if 0 ≤ v1.toInt ∧ v1.toInt < 8 then (some ((h 5 (v1.toInt.toNat)), h)) else none) else (if v2.toInt = 3 then (if 0 ≤ v1.toInt ∧ v1.toInt < 8 then (some ((h 6 (v1.toInt.toNat)), h)) else none) else (if 0 ≤ v1.toInt ∧ v1.toInt < 8 then (some ((h 4 (v1.toInt.toNat)), h)) else none))))) else (if 5 < v2.toInt then (if v2.toInt = 6 then (oP (f_X7_seatsOf v1 h) (fun r89 => some (r89, h))) else (oI (f_X7_soundsOf v1 h) (fun r90 g91 => some (r90, g91)))) else (l_X7_told_171 v1 h (fun v4_92 => some (v4_92, h)) fuel0 0 0 ))))) else (if v2.toInt < 5 then (if v2.toInt = 0 then (some ((h 0 7), h)) else (if v2.toInt = 1 then (some ((h 0 8), h)) else (if v2.toInt = 2 then (if 0 ≤ v1.toInt ∧ v1.toInt < 8 then (some ((h 5 (v1.toInt.toNat)), h)) else none) else (if v2.toInt = 3 then (if 0 ≤ v1.toInt ∧ v1.toInt < 8 then (some ((h 6 (v1.toInt.toNat)), h)) else none) else (if 0 ≤ v1.toInt ∧ v1.toInt < 8 then (some ((h 4 (v1.toInt.toNat)), h)) else none))))) else (if 5 < v2.toInt then (if v2.toInt = 6 then (oP (f_X7_seatsOf v1 h) (fun r111 => some (r111, h))) else (oI (f_X7_soundsOf v1 h) (fun r112 g113 => some (r112, g113)))) else (l_X7_told_171 v1 h (fun v4_114 => some (v4_114, h)) fuel0 0 0 )))))) else (oP (f_X7_in (v2.toInt64) 0 7) (fun r116 => if r116.toInt = 0 then (if 1 < v2.toInt then (oP (f_X7_isHouse v1 h) (fun r121 => if r121.toInt = 0 then (some ((-2), h)) else (oP (f_X7_strengthOf v1 (v2 - 10) h) (fun r124 => some (r124, h))))) else (oP (f_X7_strengthOf v1 (v2 - 10) h) (fun r125 => some (r125, h)))) else (if 1 < v2.toInt then (oP (f_X7_isHouse v1 h) (fun r128 => if r128.toInt = 0 then (some ((-2), h)) else (oP (f_X7_strengthOf v1 (v2 - 10) h) (fun r131 => some (r131, h))))) else (oP (f_X7_strengthOf v1 (v2 - 10) h) (fun r132 => some (r132, h)))))))))
theorem m_X7_told {d : Nat} (hd : 45 ≤ d) (v1 : Int32) (v2 : Int32) (h : dH) : dX shM d 131 [.ref 0, .int v1, .int v2] dI (f_X7_told v1 v2 h) h := by
  obtain ⟨e, rfl⟩ : ∃ e, d = e + 1 := ⟨d - 1, by omega⟩
  have hd : 44 ≤ e := by omega
  refine dX_of (mj := mj131) (lo := [some (.ref 0), some (.int v1), some (.int v2), none, none, none]) rfl (Nat.le_of_ble_eq_true rfl) rfl ?_
  unfold f_X7_told
  refine y_iload_n (q := 1) rfl rfl rfl ?_
  refine y_i2l (q := 2) rfl rfl ?_
  refine y_ldc2_w (u := 10) (q := 5) rfl rfl rfl ?_
  refine y_ldc2_w (u := 17) (q := 8) rfl rfl rfl ?_
  refine y_callP (I := .invokestatic 91) (idx := 91) (KD := 0) (J := 128) (mj := mj118) (as := [.long v2.toInt64, .long 10, .long 17]) (r := []) (q := 11) rfl (fun _ _ _ _ _ _ => rfl) rfl (by decide) rfl rfl rfl rfl rfl (Nat.le_of_ble_eq_true rfl) rfl rfl (m_X7_in (Nat.le_trans (by decide) hd) (v2.toInt64) 10 17 h) (fun r1 => ?_)
  refine y_eq0 (q := 29) (q' := 14) rfl rfl rfl rfl (fun c2 => ?_) (fun c3 => ?_)
  · skip
    refine y_iconst (x := 0) (q := 30) rfl (by decide) rfl ?_
    refine y_istore_n (lo' := [some (.ref 0), some (.int v1), some (.int v2), some (.int 0), none, none]) (q := 31) rfl (Nat.le_of_ble_eq_true rfl) rfl rfl ?_
    refine y_iload_n (q := 32) rfl rfl rfl ?_
    refine y_i2l (q := 33) rfl rfl ?_
    refine y_lconst (u := 0) (q := 34) rfl (by decide) rfl ?_
    refine y_ldc2_w (u := 7) (q := 37) rfl rfl rfl ?_
    refine y_callP (I := .invokestatic 91) (idx := 91) (KD := 0) (J := 128) (mj := mj118) (as := [.long v2.toInt64, .long 0, .long 7]) (r := []) (q := 40) rfl (fun _ _ _ _ _ _ => rfl) rfl (by decide) rfl rfl rfl rfl rfl (Nat.le_of_ble_eq_true rfl) rfl rfl (m_X7_in (Nat.le_trans (by decide) hd) (v2.toInt64) 0 7 h) (fun r4 => ?_)
    refine y_ne0 (q := 47) (q' := 43) rfl rfl rfl rfl (fun c5 => ?_) (fun c6 => ?_)
    · skip
      refine y_iload_n (q := 44) rfl rfl rfl ?_
      refine y_ifT (q := 60) rfl (by decide) rfl ?_
      refine y_bipush (x := (-2)) (q := 62) rfl (by decide) rfl ?_
      exact y_retI rfl (by decide) rfl rfl
    · skip
      refine y_iload_n (q := 48) rfl rfl rfl ?_
      refine y_iconst (x := 1) (q := 49) rfl (by decide) rfl ?_
      refine y_le (q := 63) (q' := 52) rfl rfl (by decide) rfl rfl (fun c7 => ?_) (fun c8 => ?_)
      · skip
        refine y_aload_n (q := 53) rfl rfl rfl ?_
        refine y_iload_n (q := 54) rfl rfl rfl ?_
        refine y_callP (I := .invokevirtual 105) (idx := 105) (KD := 1) (J := 132) (mj := mj122) (as := [.ref 0, .int v1]) (r := []) (q := 57) rfl (fun _ _ _ _ _ _ => rfl) rfl (by decide) rfl rfl rfl rfl rfl (Nat.le_of_ble_eq_true rfl) (d_recv atM0 (by decide) (by decide)) rfl (m_X7_isHouse (Nat.le_trans (by decide) hd) v1 h) (fun r9 => ?_)
        refine y_ne0 (q := 63) (q' := 60) rfl rfl rfl rfl (fun c10 => ?_) (fun c11 => ?_)
        · skip
          refine y_bipush (x := (-2)) (q := 62) rfl (by decide) rfl ?_
          exact y_retI rfl (by decide) rfl rfl
        · skip
          refine y_iload_n (q := 64) rfl rfl rfl ?_
          refine y_ifT (q := 77) rfl (by decide) rfl ?_
          refine y_iload_n (q := 78) rfl rfl rfl ?_
          refine y_iconst (x := 5) (q := 79) rfl (by decide) rfl ?_
          refine y_ge (q := 140) (q' := 82) rfl rfl (by decide) rfl rfl (fun c12 => ?_) (fun c13 => ?_)
          · skip
            refine y_iload_n (q := 83) rfl rfl rfl ?_
            refine y_ne0 (q := 93) (q' := 86) rfl rfl rfl rfl (fun c14 => ?_) (fun c15 => ?_)
            · skip
              refine y_aload_n (q := 87) rfl rfl rfl ?_
              refine y_getI (q := 90) rfl rfl (by decide) atM0 rfl rfl ?_
              refine y_goto (q := 139) rfl rfl ?_
              exact y_retI rfl (by decide) rfl rfl
            · skip
              refine y_iload_n (q := 94) rfl rfl rfl ?_
              refine y_iconst (x := 1) (q := 95) rfl (by decide) rfl ?_
              refine y_ne (q := 105) (q' := 98) rfl rfl (by decide) rfl rfl (fun c16 => ?_) (fun c17 => ?_)
              · skip
                refine y_aload_n (q := 99) rfl rfl rfl ?_
                refine y_getI (q := 102) rfl rfl (by decide) atM0 rfl rfl ?_
                refine y_goto (q := 139) rfl rfl ?_
                exact y_retI rfl (by decide) rfl rfl
              · skip
                refine y_iload_n (q := 106) rfl rfl rfl ?_
                refine y_iconst (x := 2) (q := 107) rfl (by decide) rfl ?_
                refine y_ne (q := 119) (q' := 110) rfl rfl (by decide) rfl rfl (fun c18 => ?_) (fun c19 => ?_)
                · skip
                  refine y_aload_n (q := 111) rfl rfl rfl ?_
                  refine y_getR (b := 5) (q := 114) rfl rfl (by decide) atM0 rfl rfl ?_
                  refine y_iload_n (q := 115) rfl rfl rfl ?_
                  refine y_guard (fun c20 => ?_)
                  refine y_iald (n := 8) (N := 8) (X := v1.toInt) (K := v1.toInt.toNat) (q := 116) hbM rfl atM5 rfl rfl c20 rfl rfl ?_
                  refine y_goto (q := 139) rfl rfl ?_
                  exact y_retI rfl (by decide) rfl rfl
                · skip
                  refine y_iload_n (q := 120) rfl rfl rfl ?_
                  refine y_iconst (x := 3) (q := 121) rfl (by decide) rfl ?_
                  refine y_ne (q := 133) (q' := 124) rfl rfl (by decide) rfl rfl (fun c21 => ?_) (fun c22 => ?_)
                  · skip
                    refine y_aload_n (q := 125) rfl rfl rfl ?_
                    refine y_getR (b := 6) (q := 128) rfl rfl (by decide) atM0 rfl rfl ?_
                    refine y_iload_n (q := 129) rfl rfl rfl ?_
                    refine y_guard (fun c23 => ?_)
                    refine y_iald (n := 8) (N := 8) (X := v1.toInt) (K := v1.toInt.toNat) (q := 130) hbM rfl atM6 rfl rfl c23 rfl rfl ?_
                    refine y_goto (q := 139) rfl rfl ?_
                    exact y_retI rfl (by decide) rfl rfl
                  · skip
                    refine y_aload_n (q := 134) rfl rfl rfl ?_
                    refine y_getR (b := 4) (q := 137) rfl rfl (by decide) atM0 rfl rfl ?_
                    refine y_iload_n (q := 138) rfl rfl rfl ?_
                    refine y_guard (fun c24 => ?_)
                    refine y_iald (n := 8) (N := 8) (X := v1.toInt) (K := v1.toInt.toNat) (q := 139) hbM rfl atM4 rfl rfl c24 rfl rfl ?_
                    exact y_retI rfl (by decide) rfl rfl
          · skip
            refine y_iload_n (q := 141) rfl rfl rfl ?_
            refine y_iconst (x := 5) (q := 142) rfl (by decide) rfl ?_
            refine y_le (q := 165) (q' := 145) rfl rfl (by decide) rfl rfl (fun c25 => ?_) (fun c26 => ?_)
            · skip
              refine y_iload_n (q := 146) rfl rfl rfl ?_
              refine y_bipush (x := 6) (q := 148) rfl (by decide) rfl ?_
              refine y_ne (q := 159) (q' := 151) rfl rfl (by decide) rfl rfl (fun c27 => ?_) (fun c28 => ?_)
              · skip
                refine y_aload_n (q := 152) rfl rfl rfl ?_
                refine y_iload_n (q := 153) rfl rfl rfl ?_
                refine y_callP (I := .invokevirtual 148) (idx := 148) (KD := 1) (J := 142) (mj := mj132) (as := [.ref 0, .int v1]) (r := []) (q := 156) rfl (fun _ _ _ _ _ _ => rfl) rfl (by decide) rfl rfl rfl rfl rfl (Nat.le_of_ble_eq_true rfl) (d_recv atM0 (by decide) (by decide)) rfl (m_X7_seatsOf (Nat.le_trans (by decide) hd) v1 h) (fun r29 => ?_)
                refine y_goto (q := 164) rfl rfl ?_
                exact y_retI rfl (by decide) rfl rfl
              · skip
                refine y_aload_n (q := 160) rfl rfl rfl ?_
                refine y_iload_n (q := 161) rfl rfl rfl ?_
                refine y_callI (I := .invokevirtual 152) (idx := 152) (KD := 1) (J := 196) (mj := mj186) (as := [.ref 0, .int v1]) (r := []) (q := 164) rfl (fun _ _ _ _ _ _ => rfl) rfl (by decide) rfl rfl rfl rfl rfl (Nat.le_of_ble_eq_true rfl) (d_recv atM0 (by decide) (by decide)) rfl (m_X7_soundsOf (Nat.le_trans (by decide) hd) v1 h) (fun r30 g31 => ?_)
                exact y_retI rfl (by decide) rfl rfl
            · skip
              refine y_iconst (x := 0) (q := 166) rfl (by decide) rfl ?_
              refine y_istore (lo' := [some (.ref 0), some (.int v1), some (.int v2), some (.int 0), some (.int 0), none]) (q := 168) rfl (Nat.le_of_ble_eq_true rfl) rfl rfl ?_
              refine y_iconst (x := 0) (q := 169) rfl (by decide) rfl ?_
              refine y_istore (lo' := [some (.ref 0), some (.int v1), some (.int v2), some (.int 0), some (.int 0), some (.int 0)]) (q := 171) rfl (Nat.le_of_ble_eq_true rfl) rfl rfl ?_
              refine lz_X7_told_171 hd v1 v2 0 h _ (fun v4_37 z38 => ?_) fuel0 0 0  
              refine y_iload (q := 208) rfl rfl rfl ?_
              exact y_retI rfl (by decide) rfl rfl
      · skip
        refine y_iload_n (q := 64) rfl rfl rfl ?_
        refine y_ifT (q := 77) rfl (by decide) rfl ?_
        refine y_iload_n (q := 78) rfl rfl rfl ?_
        refine y_iconst (x := 5) (q := 79) rfl (by decide) rfl ?_
        refine y_ge (q := 140) (q' := 82) rfl rfl (by decide) rfl rfl (fun c39 => ?_) (fun c40 => ?_)
        · skip
          refine y_iload_n (q := 83) rfl rfl rfl ?_
          refine y_ne0 (q := 93) (q' := 86) rfl rfl rfl rfl (fun c41 => ?_) (fun c42 => ?_)
          · skip
            refine y_aload_n (q := 87) rfl rfl rfl ?_
            refine y_getI (q := 90) rfl rfl (by decide) atM0 rfl rfl ?_
            refine y_goto (q := 139) rfl rfl ?_
            exact y_retI rfl (by decide) rfl rfl
          · skip
            refine y_iload_n (q := 94) rfl rfl rfl ?_
            refine y_iconst (x := 1) (q := 95) rfl (by decide) rfl ?_
            refine y_ne (q := 105) (q' := 98) rfl rfl (by decide) rfl rfl (fun c43 => ?_) (fun c44 => ?_)
            · skip
              refine y_aload_n (q := 99) rfl rfl rfl ?_
              refine y_getI (q := 102) rfl rfl (by decide) atM0 rfl rfl ?_
              refine y_goto (q := 139) rfl rfl ?_
              exact y_retI rfl (by decide) rfl rfl
            · skip
              refine y_iload_n (q := 106) rfl rfl rfl ?_
              refine y_iconst (x := 2) (q := 107) rfl (by decide) rfl ?_
              refine y_ne (q := 119) (q' := 110) rfl rfl (by decide) rfl rfl (fun c45 => ?_) (fun c46 => ?_)
              · skip
                refine y_aload_n (q := 111) rfl rfl rfl ?_
                refine y_getR (b := 5) (q := 114) rfl rfl (by decide) atM0 rfl rfl ?_
                refine y_iload_n (q := 115) rfl rfl rfl ?_
                refine y_guard (fun c47 => ?_)
                refine y_iald (n := 8) (N := 8) (X := v1.toInt) (K := v1.toInt.toNat) (q := 116) hbM rfl atM5 rfl rfl c47 rfl rfl ?_
                refine y_goto (q := 139) rfl rfl ?_
                exact y_retI rfl (by decide) rfl rfl
              · skip
                refine y_iload_n (q := 120) rfl rfl rfl ?_
                refine y_iconst (x := 3) (q := 121) rfl (by decide) rfl ?_
                refine y_ne (q := 133) (q' := 124) rfl rfl (by decide) rfl rfl (fun c48 => ?_) (fun c49 => ?_)
                · skip
                  refine y_aload_n (q := 125) rfl rfl rfl ?_
                  refine y_getR (b := 6) (q := 128) rfl rfl (by decide) atM0 rfl rfl ?_
                  refine y_iload_n (q := 129) rfl rfl rfl ?_
                  refine y_guard (fun c50 => ?_)
                  refine y_iald (n := 8) (N := 8) (X := v1.toInt) (K := v1.toInt.toNat) (q := 130) hbM rfl atM6 rfl rfl c50 rfl rfl ?_
                  refine y_goto (q := 139) rfl rfl ?_
                  exact y_retI rfl (by decide) rfl rfl
                · skip
                  refine y_aload_n (q := 134) rfl rfl rfl ?_
                  refine y_getR (b := 4) (q := 137) rfl rfl (by decide) atM0 rfl rfl ?_
                  refine y_iload_n (q := 138) rfl rfl rfl ?_
                  refine y_guard (fun c51 => ?_)
                  refine y_iald (n := 8) (N := 8) (X := v1.toInt) (K := v1.toInt.toNat) (q := 139) hbM rfl atM4 rfl rfl c51 rfl rfl ?_
                  exact y_retI rfl (by decide) rfl rfl
        · skip
          refine y_iload_n (q := 141) rfl rfl rfl ?_
          refine y_iconst (x := 5) (q := 142) rfl (by decide) rfl ?_
          refine y_le (q := 165) (q' := 145) rfl rfl (by decide) rfl rfl (fun c52 => ?_) (fun c53 => ?_)
          · skip
            refine y_iload_n (q := 146) rfl rfl rfl ?_
            refine y_bipush (x := 6) (q := 148) rfl (by decide) rfl ?_
            refine y_ne (q := 159) (q' := 151) rfl rfl (by decide) rfl rfl (fun c54 => ?_) (fun c55 => ?_)
            · skip
              refine y_aload_n (q := 152) rfl rfl rfl ?_
              refine y_iload_n (q := 153) rfl rfl rfl ?_
              refine y_callP (I := .invokevirtual 148) (idx := 148) (KD := 1) (J := 142) (mj := mj132) (as := [.ref 0, .int v1]) (r := []) (q := 156) rfl (fun _ _ _ _ _ _ => rfl) rfl (by decide) rfl rfl rfl rfl rfl (Nat.le_of_ble_eq_true rfl) (d_recv atM0 (by decide) (by decide)) rfl (m_X7_seatsOf (Nat.le_trans (by decide) hd) v1 h) (fun r56 => ?_)
              refine y_goto (q := 164) rfl rfl ?_
              exact y_retI rfl (by decide) rfl rfl
            · skip
              refine y_aload_n (q := 160) rfl rfl rfl ?_
              refine y_iload_n (q := 161) rfl rfl rfl ?_
              refine y_callI (I := .invokevirtual 152) (idx := 152) (KD := 1) (J := 196) (mj := mj186) (as := [.ref 0, .int v1]) (r := []) (q := 164) rfl (fun _ _ _ _ _ _ => rfl) rfl (by decide) rfl rfl rfl rfl rfl (Nat.le_of_ble_eq_true rfl) (d_recv atM0 (by decide) (by decide)) rfl (m_X7_soundsOf (Nat.le_trans (by decide) hd) v1 h) (fun r57 g58 => ?_)
              exact y_retI rfl (by decide) rfl rfl
          · skip
            refine y_iconst (x := 0) (q := 166) rfl (by decide) rfl ?_
            refine y_istore (lo' := [some (.ref 0), some (.int v1), some (.int v2), some (.int 0), some (.int 0), none]) (q := 168) rfl (Nat.le_of_ble_eq_true rfl) rfl rfl ?_
            refine y_iconst (x := 0) (q := 169) rfl (by decide) rfl ?_
            refine y_istore (lo' := [some (.ref 0), some (.int v1), some (.int v2), some (.int 0), some (.int 0), some (.int 0)]) (q := 171) rfl (Nat.le_of_ble_eq_true rfl) rfl rfl ?_
            refine lz_X7_told_171 hd v1 v2 0 h _ (fun v4_59 z60 => ?_) fuel0 0 0  
            refine y_iload (q := 208) rfl rfl rfl ?_
            exact y_retI rfl (by decide) rfl rfl
  · skip
    refine y_aload_n (q := 15) rfl rfl rfl ?_
    refine y_iload_n (q := 16) rfl rfl rfl ?_
    refine y_bipush (x := 10) (q := 18) rfl (by decide) rfl ?_
    refine y_isub (q := 19) rfl rfl ?_
    refine y_callP (I := .invokevirtual 105) (idx := 105) (KD := 1) (J := 132) (mj := mj122) (as := [.ref 0, .int (v2 - 10)]) (r := []) (q := 22) rfl (fun _ _ _ _ _ _ => rfl) rfl (by decide) rfl rfl rfl rfl rfl (Nat.le_of_ble_eq_true rfl) (d_recv atM0 (by decide) (by decide)) rfl (m_X7_isHouse (Nat.le_trans (by decide) hd) (v2 - 10) h) (fun r61 => ?_)
    refine y_eq0 (q := 29) (q' := 25) rfl rfl rfl rfl (fun c62 => ?_) (fun c63 => ?_)
    · skip
      refine y_iconst (x := 0) (q := 30) rfl (by decide) rfl ?_
      refine y_istore_n (lo' := [some (.ref 0), some (.int v1), some (.int v2), some (.int 0), none, none]) (q := 31) rfl (Nat.le_of_ble_eq_true rfl) rfl rfl ?_
      refine y_iload_n (q := 32) rfl rfl rfl ?_
      refine y_i2l (q := 33) rfl rfl ?_
      refine y_lconst (u := 0) (q := 34) rfl (by decide) rfl ?_
      refine y_ldc2_w (u := 7) (q := 37) rfl rfl rfl ?_
      refine y_callP (I := .invokestatic 91) (idx := 91) (KD := 0) (J := 128) (mj := mj118) (as := [.long v2.toInt64, .long 0, .long 7]) (r := []) (q := 40) rfl (fun _ _ _ _ _ _ => rfl) rfl (by decide) rfl rfl rfl rfl rfl (Nat.le_of_ble_eq_true rfl) rfl rfl (m_X7_in (Nat.le_trans (by decide) hd) (v2.toInt64) 0 7 h) (fun r64 => ?_)
      refine y_ne0 (q := 47) (q' := 43) rfl rfl rfl rfl (fun c65 => ?_) (fun c66 => ?_)
      · skip
        refine y_iload_n (q := 44) rfl rfl rfl ?_
        refine y_ifT (q := 60) rfl (by decide) rfl ?_
        refine y_bipush (x := (-2)) (q := 62) rfl (by decide) rfl ?_
        exact y_retI rfl (by decide) rfl rfl
      · skip
        refine y_iload_n (q := 48) rfl rfl rfl ?_
        refine y_iconst (x := 1) (q := 49) rfl (by decide) rfl ?_
        refine y_le (q := 63) (q' := 52) rfl rfl (by decide) rfl rfl (fun c67 => ?_) (fun c68 => ?_)
        · skip
          refine y_aload_n (q := 53) rfl rfl rfl ?_
          refine y_iload_n (q := 54) rfl rfl rfl ?_
          refine y_callP (I := .invokevirtual 105) (idx := 105) (KD := 1) (J := 132) (mj := mj122) (as := [.ref 0, .int v1]) (r := []) (q := 57) rfl (fun _ _ _ _ _ _ => rfl) rfl (by decide) rfl rfl rfl rfl rfl (Nat.le_of_ble_eq_true rfl) (d_recv atM0 (by decide) (by decide)) rfl (m_X7_isHouse (Nat.le_trans (by decide) hd) v1 h) (fun r69 => ?_)
          refine y_ne0 (q := 63) (q' := 60) rfl rfl rfl rfl (fun c70 => ?_) (fun c71 => ?_)
          · skip
            refine y_bipush (x := (-2)) (q := 62) rfl (by decide) rfl ?_
            exact y_retI rfl (by decide) rfl rfl
          · skip
            refine y_iload_n (q := 64) rfl rfl rfl ?_
            refine y_ifT (q := 77) rfl (by decide) rfl ?_
            refine y_iload_n (q := 78) rfl rfl rfl ?_
            refine y_iconst (x := 5) (q := 79) rfl (by decide) rfl ?_
            refine y_ge (q := 140) (q' := 82) rfl rfl (by decide) rfl rfl (fun c72 => ?_) (fun c73 => ?_)
            · skip
              refine y_iload_n (q := 83) rfl rfl rfl ?_
              refine y_ne0 (q := 93) (q' := 86) rfl rfl rfl rfl (fun c74 => ?_) (fun c75 => ?_)
              · skip
                refine y_aload_n (q := 87) rfl rfl rfl ?_
                refine y_getI (q := 90) rfl rfl (by decide) atM0 rfl rfl ?_
                refine y_goto (q := 139) rfl rfl ?_
                exact y_retI rfl (by decide) rfl rfl
              · skip
                refine y_iload_n (q := 94) rfl rfl rfl ?_
                refine y_iconst (x := 1) (q := 95) rfl (by decide) rfl ?_
                refine y_ne (q := 105) (q' := 98) rfl rfl (by decide) rfl rfl (fun c76 => ?_) (fun c77 => ?_)
                · skip
                  refine y_aload_n (q := 99) rfl rfl rfl ?_
                  refine y_getI (q := 102) rfl rfl (by decide) atM0 rfl rfl ?_
                  refine y_goto (q := 139) rfl rfl ?_
                  exact y_retI rfl (by decide) rfl rfl
                · skip
                  refine y_iload_n (q := 106) rfl rfl rfl ?_
                  refine y_iconst (x := 2) (q := 107) rfl (by decide) rfl ?_
                  refine y_ne (q := 119) (q' := 110) rfl rfl (by decide) rfl rfl (fun c78 => ?_) (fun c79 => ?_)
                  · skip
                    refine y_aload_n (q := 111) rfl rfl rfl ?_
                    refine y_getR (b := 5) (q := 114) rfl rfl (by decide) atM0 rfl rfl ?_
                    refine y_iload_n (q := 115) rfl rfl rfl ?_
                    refine y_guard (fun c80 => ?_)
                    refine y_iald (n := 8) (N := 8) (X := v1.toInt) (K := v1.toInt.toNat) (q := 116) hbM rfl atM5 rfl rfl c80 rfl rfl ?_
                    refine y_goto (q := 139) rfl rfl ?_
                    exact y_retI rfl (by decide) rfl rfl
                  · skip
                    refine y_iload_n (q := 120) rfl rfl rfl ?_
                    refine y_iconst (x := 3) (q := 121) rfl (by decide) rfl ?_
                    refine y_ne (q := 133) (q' := 124) rfl rfl (by decide) rfl rfl (fun c81 => ?_) (fun c82 => ?_)
                    · skip
                      refine y_aload_n (q := 125) rfl rfl rfl ?_
                      refine y_getR (b := 6) (q := 128) rfl rfl (by decide) atM0 rfl rfl ?_
                      refine y_iload_n (q := 129) rfl rfl rfl ?_
                      refine y_guard (fun c83 => ?_)
                      refine y_iald (n := 8) (N := 8) (X := v1.toInt) (K := v1.toInt.toNat) (q := 130) hbM rfl atM6 rfl rfl c83 rfl rfl ?_
                      refine y_goto (q := 139) rfl rfl ?_
                      exact y_retI rfl (by decide) rfl rfl
                    · skip
                      refine y_aload_n (q := 134) rfl rfl rfl ?_
                      refine y_getR (b := 4) (q := 137) rfl rfl (by decide) atM0 rfl rfl ?_
                      refine y_iload_n (q := 138) rfl rfl rfl ?_
                      refine y_guard (fun c84 => ?_)
                      refine y_iald (n := 8) (N := 8) (X := v1.toInt) (K := v1.toInt.toNat) (q := 139) hbM rfl atM4 rfl rfl c84 rfl rfl ?_
                      exact y_retI rfl (by decide) rfl rfl
            · skip
              refine y_iload_n (q := 141) rfl rfl rfl ?_
              refine y_iconst (x := 5) (q := 142) rfl (by decide) rfl ?_
              refine y_le (q := 165) (q' := 145) rfl rfl (by decide) rfl rfl (fun c85 => ?_) (fun c86 => ?_)
              · skip
                refine y_iload_n (q := 146) rfl rfl rfl ?_
                refine y_bipush (x := 6) (q := 148) rfl (by decide) rfl ?_
                refine y_ne (q := 159) (q' := 151) rfl rfl (by decide) rfl rfl (fun c87 => ?_) (fun c88 => ?_)
                · skip
                  refine y_aload_n (q := 152) rfl rfl rfl ?_
                  refine y_iload_n (q := 153) rfl rfl rfl ?_
                  refine y_callP (I := .invokevirtual 148) (idx := 148) (KD := 1) (J := 142) (mj := mj132) (as := [.ref 0, .int v1]) (r := []) (q := 156) rfl (fun _ _ _ _ _ _ => rfl) rfl (by decide) rfl rfl rfl rfl rfl (Nat.le_of_ble_eq_true rfl) (d_recv atM0 (by decide) (by decide)) rfl (m_X7_seatsOf (Nat.le_trans (by decide) hd) v1 h) (fun r89 => ?_)
                  refine y_goto (q := 164) rfl rfl ?_
                  exact y_retI rfl (by decide) rfl rfl
                · skip
                  refine y_aload_n (q := 160) rfl rfl rfl ?_
                  refine y_iload_n (q := 161) rfl rfl rfl ?_
                  refine y_callI (I := .invokevirtual 152) (idx := 152) (KD := 1) (J := 196) (mj := mj186) (as := [.ref 0, .int v1]) (r := []) (q := 164) rfl (fun _ _ _ _ _ _ => rfl) rfl (by decide) rfl rfl rfl rfl rfl (Nat.le_of_ble_eq_true rfl) (d_recv atM0 (by decide) (by decide)) rfl (m_X7_soundsOf (Nat.le_trans (by decide) hd) v1 h) (fun r90 g91 => ?_)
                  exact y_retI rfl (by decide) rfl rfl
              · skip
                refine y_iconst (x := 0) (q := 166) rfl (by decide) rfl ?_
                refine y_istore (lo' := [some (.ref 0), some (.int v1), some (.int v2), some (.int 0), some (.int 0), none]) (q := 168) rfl (Nat.le_of_ble_eq_true rfl) rfl rfl ?_
                refine y_iconst (x := 0) (q := 169) rfl (by decide) rfl ?_
                refine y_istore (lo' := [some (.ref 0), some (.int v1), some (.int v2), some (.int 0), some (.int 0), some (.int 0)]) (q := 171) rfl (Nat.le_of_ble_eq_true rfl) rfl rfl ?_
                refine lz_X7_told_171 hd v1 v2 0 h _ (fun v4_92 z93 => ?_) fuel0 0 0  
                refine y_iload (q := 208) rfl rfl rfl ?_
                exact y_retI rfl (by decide) rfl rfl
        · skip
          refine y_iload_n (q := 64) rfl rfl rfl ?_
          refine y_ifT (q := 77) rfl (by decide) rfl ?_
          refine y_iload_n (q := 78) rfl rfl rfl ?_
          refine y_iconst (x := 5) (q := 79) rfl (by decide) rfl ?_
          refine y_ge (q := 140) (q' := 82) rfl rfl (by decide) rfl rfl (fun c94 => ?_) (fun c95 => ?_)
          · skip
            refine y_iload_n (q := 83) rfl rfl rfl ?_
            refine y_ne0 (q := 93) (q' := 86) rfl rfl rfl rfl (fun c96 => ?_) (fun c97 => ?_)
            · skip
              refine y_aload_n (q := 87) rfl rfl rfl ?_
              refine y_getI (q := 90) rfl rfl (by decide) atM0 rfl rfl ?_
              refine y_goto (q := 139) rfl rfl ?_
              exact y_retI rfl (by decide) rfl rfl
            · skip
              refine y_iload_n (q := 94) rfl rfl rfl ?_
              refine y_iconst (x := 1) (q := 95) rfl (by decide) rfl ?_
              refine y_ne (q := 105) (q' := 98) rfl rfl (by decide) rfl rfl (fun c98 => ?_) (fun c99 => ?_)
              · skip
                refine y_aload_n (q := 99) rfl rfl rfl ?_
                refine y_getI (q := 102) rfl rfl (by decide) atM0 rfl rfl ?_
                refine y_goto (q := 139) rfl rfl ?_
                exact y_retI rfl (by decide) rfl rfl
              · skip
                refine y_iload_n (q := 106) rfl rfl rfl ?_
                refine y_iconst (x := 2) (q := 107) rfl (by decide) rfl ?_
                refine y_ne (q := 119) (q' := 110) rfl rfl (by decide) rfl rfl (fun c100 => ?_) (fun c101 => ?_)
                · skip
                  refine y_aload_n (q := 111) rfl rfl rfl ?_
                  refine y_getR (b := 5) (q := 114) rfl rfl (by decide) atM0 rfl rfl ?_
                  refine y_iload_n (q := 115) rfl rfl rfl ?_
                  refine y_guard (fun c102 => ?_)
                  refine y_iald (n := 8) (N := 8) (X := v1.toInt) (K := v1.toInt.toNat) (q := 116) hbM rfl atM5 rfl rfl c102 rfl rfl ?_
                  refine y_goto (q := 139) rfl rfl ?_
                  exact y_retI rfl (by decide) rfl rfl
                · skip
                  refine y_iload_n (q := 120) rfl rfl rfl ?_
                  refine y_iconst (x := 3) (q := 121) rfl (by decide) rfl ?_
                  refine y_ne (q := 133) (q' := 124) rfl rfl (by decide) rfl rfl (fun c103 => ?_) (fun c104 => ?_)
                  · skip
                    refine y_aload_n (q := 125) rfl rfl rfl ?_
                    refine y_getR (b := 6) (q := 128) rfl rfl (by decide) atM0 rfl rfl ?_
                    refine y_iload_n (q := 129) rfl rfl rfl ?_
                    refine y_guard (fun c105 => ?_)
                    refine y_iald (n := 8) (N := 8) (X := v1.toInt) (K := v1.toInt.toNat) (q := 130) hbM rfl atM6 rfl rfl c105 rfl rfl ?_
                    refine y_goto (q := 139) rfl rfl ?_
                    exact y_retI rfl (by decide) rfl rfl
                  · skip
                    refine y_aload_n (q := 134) rfl rfl rfl ?_
                    refine y_getR (b := 4) (q := 137) rfl rfl (by decide) atM0 rfl rfl ?_
                    refine y_iload_n (q := 138) rfl rfl rfl ?_
                    refine y_guard (fun c106 => ?_)
                    refine y_iald (n := 8) (N := 8) (X := v1.toInt) (K := v1.toInt.toNat) (q := 139) hbM rfl atM4 rfl rfl c106 rfl rfl ?_
                    exact y_retI rfl (by decide) rfl rfl
          · skip
            refine y_iload_n (q := 141) rfl rfl rfl ?_
            refine y_iconst (x := 5) (q := 142) rfl (by decide) rfl ?_
            refine y_le (q := 165) (q' := 145) rfl rfl (by decide) rfl rfl (fun c107 => ?_) (fun c108 => ?_)
            · skip
              refine y_iload_n (q := 146) rfl rfl rfl ?_
              refine y_bipush (x := 6) (q := 148) rfl (by decide) rfl ?_
              refine y_ne (q := 159) (q' := 151) rfl rfl (by decide) rfl rfl (fun c109 => ?_) (fun c110 => ?_)
              · skip
                refine y_aload_n (q := 152) rfl rfl rfl ?_
                refine y_iload_n (q := 153) rfl rfl rfl ?_
                refine y_callP (I := .invokevirtual 148) (idx := 148) (KD := 1) (J := 142) (mj := mj132) (as := [.ref 0, .int v1]) (r := []) (q := 156) rfl (fun _ _ _ _ _ _ => rfl) rfl (by decide) rfl rfl rfl rfl rfl (Nat.le_of_ble_eq_true rfl) (d_recv atM0 (by decide) (by decide)) rfl (m_X7_seatsOf (Nat.le_trans (by decide) hd) v1 h) (fun r111 => ?_)
                refine y_goto (q := 164) rfl rfl ?_
                exact y_retI rfl (by decide) rfl rfl
              · skip
                refine y_aload_n (q := 160) rfl rfl rfl ?_
                refine y_iload_n (q := 161) rfl rfl rfl ?_
                refine y_callI (I := .invokevirtual 152) (idx := 152) (KD := 1) (J := 196) (mj := mj186) (as := [.ref 0, .int v1]) (r := []) (q := 164) rfl (fun _ _ _ _ _ _ => rfl) rfl (by decide) rfl rfl rfl rfl rfl (Nat.le_of_ble_eq_true rfl) (d_recv atM0 (by decide) (by decide)) rfl (m_X7_soundsOf (Nat.le_trans (by decide) hd) v1 h) (fun r112 g113 => ?_)
                exact y_retI rfl (by decide) rfl rfl
            · skip
              refine y_iconst (x := 0) (q := 166) rfl (by decide) rfl ?_
              refine y_istore (lo' := [some (.ref 0), some (.int v1), some (.int v2), some (.int 0), some (.int 0), none]) (q := 168) rfl (Nat.le_of_ble_eq_true rfl) rfl rfl ?_
              refine y_iconst (x := 0) (q := 169) rfl (by decide) rfl ?_
              refine y_istore (lo' := [some (.ref 0), some (.int v1), some (.int v2), some (.int 0), some (.int 0), some (.int 0)]) (q := 171) rfl (Nat.le_of_ble_eq_true rfl) rfl rfl ?_
              refine lz_X7_told_171 hd v1 v2 0 h _ (fun v4_114 z115 => ?_) fuel0 0 0  
              refine y_iload (q := 208) rfl rfl rfl ?_
              exact y_retI rfl (by decide) rfl rfl
    · skip
      refine y_iconst (x := 1) (q := 26) rfl (by decide) rfl ?_
      refine y_goto (q := 30) rfl rfl ?_
      refine y_istore_n (lo' := [some (.ref 0), some (.int v1), some (.int v2), some (.int 1), none, none]) (q := 31) rfl (Nat.le_of_ble_eq_true rfl) rfl rfl ?_
      refine y_iload_n (q := 32) rfl rfl rfl ?_
      refine y_i2l (q := 33) rfl rfl ?_
      refine y_lconst (u := 0) (q := 34) rfl (by decide) rfl ?_
      refine y_ldc2_w (u := 7) (q := 37) rfl rfl rfl ?_
      refine y_callP (I := .invokestatic 91) (idx := 91) (KD := 0) (J := 128) (mj := mj118) (as := [.long v2.toInt64, .long 0, .long 7]) (r := []) (q := 40) rfl (fun _ _ _ _ _ _ => rfl) rfl (by decide) rfl rfl rfl rfl rfl (Nat.le_of_ble_eq_true rfl) rfl rfl (m_X7_in (Nat.le_trans (by decide) hd) (v2.toInt64) 0 7 h) (fun r116 => ?_)
      refine y_ne0 (q := 47) (q' := 43) rfl rfl rfl rfl (fun c117 => ?_) (fun c118 => ?_)
      · skip
        refine y_iload_n (q := 44) rfl rfl rfl ?_
        refine y_ifF (q := 47) rfl (by decide) rfl rfl ?_
        refine y_iload_n (q := 48) rfl rfl rfl ?_
        refine y_iconst (x := 1) (q := 49) rfl (by decide) rfl ?_
        refine y_le (q := 63) (q' := 52) rfl rfl (by decide) rfl rfl (fun c119 => ?_) (fun c120 => ?_)
        · skip
          refine y_aload_n (q := 53) rfl rfl rfl ?_
          refine y_iload_n (q := 54) rfl rfl rfl ?_
          refine y_callP (I := .invokevirtual 105) (idx := 105) (KD := 1) (J := 132) (mj := mj122) (as := [.ref 0, .int v1]) (r := []) (q := 57) rfl (fun _ _ _ _ _ _ => rfl) rfl (by decide) rfl rfl rfl rfl rfl (Nat.le_of_ble_eq_true rfl) (d_recv atM0 (by decide) (by decide)) rfl (m_X7_isHouse (Nat.le_trans (by decide) hd) v1 h) (fun r121 => ?_)
          refine y_ne0 (q := 63) (q' := 60) rfl rfl rfl rfl (fun c122 => ?_) (fun c123 => ?_)
          · skip
            refine y_bipush (x := (-2)) (q := 62) rfl (by decide) rfl ?_
            exact y_retI rfl (by decide) rfl rfl
          · skip
            refine y_iload_n (q := 64) rfl rfl rfl ?_
            refine y_ifF (q := 67) rfl (by decide) rfl rfl ?_
            refine y_aload_n (q := 68) rfl rfl rfl ?_
            refine y_iload_n (q := 69) rfl rfl rfl ?_
            refine y_iload_n (q := 70) rfl rfl rfl ?_
            refine y_bipush (x := 10) (q := 72) rfl (by decide) rfl ?_
            refine y_isub (q := 73) rfl rfl ?_
            refine y_callP (I := .invokevirtual 139) (idx := 139) (KD := 1) (J := 136) (mj := mj126) (as := [.ref 0, .int v1, .int (v2 - 10)]) (r := []) (q := 76) rfl (fun _ _ _ _ _ _ => rfl) rfl (by decide) rfl rfl rfl rfl rfl (Nat.le_of_ble_eq_true rfl) (d_recv atM0 (by decide) (by decide)) rfl (m_X7_strengthOf (Nat.le_trans (by decide) hd) v1 (v2 - 10) h) (fun r124 => ?_)
            exact y_retI rfl (by decide) rfl rfl
        · skip
          refine y_iload_n (q := 64) rfl rfl rfl ?_
          refine y_ifF (q := 67) rfl (by decide) rfl rfl ?_
          refine y_aload_n (q := 68) rfl rfl rfl ?_
          refine y_iload_n (q := 69) rfl rfl rfl ?_
          refine y_iload_n (q := 70) rfl rfl rfl ?_
          refine y_bipush (x := 10) (q := 72) rfl (by decide) rfl ?_
          refine y_isub (q := 73) rfl rfl ?_
          refine y_callP (I := .invokevirtual 139) (idx := 139) (KD := 1) (J := 136) (mj := mj126) (as := [.ref 0, .int v1, .int (v2 - 10)]) (r := []) (q := 76) rfl (fun _ _ _ _ _ _ => rfl) rfl (by decide) rfl rfl rfl rfl rfl (Nat.le_of_ble_eq_true rfl) (d_recv atM0 (by decide) (by decide)) rfl (m_X7_strengthOf (Nat.le_trans (by decide) hd) v1 (v2 - 10) h) (fun r125 => ?_)
          exact y_retI rfl (by decide) rfl rfl
      · skip
        refine y_iload_n (q := 48) rfl rfl rfl ?_
        refine y_iconst (x := 1) (q := 49) rfl (by decide) rfl ?_
        refine y_le (q := 63) (q' := 52) rfl rfl (by decide) rfl rfl (fun c126 => ?_) (fun c127 => ?_)
        · skip
          refine y_aload_n (q := 53) rfl rfl rfl ?_
          refine y_iload_n (q := 54) rfl rfl rfl ?_
          refine y_callP (I := .invokevirtual 105) (idx := 105) (KD := 1) (J := 132) (mj := mj122) (as := [.ref 0, .int v1]) (r := []) (q := 57) rfl (fun _ _ _ _ _ _ => rfl) rfl (by decide) rfl rfl rfl rfl rfl (Nat.le_of_ble_eq_true rfl) (d_recv atM0 (by decide) (by decide)) rfl (m_X7_isHouse (Nat.le_trans (by decide) hd) v1 h) (fun r128 => ?_)
          refine y_ne0 (q := 63) (q' := 60) rfl rfl rfl rfl (fun c129 => ?_) (fun c130 => ?_)
          · skip
            refine y_bipush (x := (-2)) (q := 62) rfl (by decide) rfl ?_
            exact y_retI rfl (by decide) rfl rfl
          · skip
            refine y_iload_n (q := 64) rfl rfl rfl ?_
            refine y_ifF (q := 67) rfl (by decide) rfl rfl ?_
            refine y_aload_n (q := 68) rfl rfl rfl ?_
            refine y_iload_n (q := 69) rfl rfl rfl ?_
            refine y_iload_n (q := 70) rfl rfl rfl ?_
            refine y_bipush (x := 10) (q := 72) rfl (by decide) rfl ?_
            refine y_isub (q := 73) rfl rfl ?_
            refine y_callP (I := .invokevirtual 139) (idx := 139) (KD := 1) (J := 136) (mj := mj126) (as := [.ref 0, .int v1, .int (v2 - 10)]) (r := []) (q := 76) rfl (fun _ _ _ _ _ _ => rfl) rfl (by decide) rfl rfl rfl rfl rfl (Nat.le_of_ble_eq_true rfl) (d_recv atM0 (by decide) (by decide)) rfl (m_X7_strengthOf (Nat.le_trans (by decide) hd) v1 (v2 - 10) h) (fun r131 => ?_)
            exact y_retI rfl (by decide) rfl rfl
        · skip
          refine y_iload_n (q := 64) rfl rfl rfl ?_
          refine y_ifF (q := 67) rfl (by decide) rfl rfl ?_
          refine y_aload_n (q := 68) rfl rfl rfl ?_
          refine y_iload_n (q := 69) rfl rfl rfl ?_
          refine y_iload_n (q := 70) rfl rfl rfl ?_
          refine y_bipush (x := 10) (q := 72) rfl (by decide) rfl ?_
          refine y_isub (q := 73) rfl rfl ?_
          refine y_callP (I := .invokevirtual 139) (idx := 139) (KD := 1) (J := 136) (mj := mj126) (as := [.ref 0, .int v1, .int (v2 - 10)]) (r := []) (q := 76) rfl (fun _ _ _ _ _ _ => rfl) rfl (by decide) rfl rfl rfl rfl rfl (Nat.le_of_ble_eq_true rfl) (d_recv atM0 (by decide) (by decide)) rfl (m_X7_strengthOf (Nat.le_trans (by decide) hd) v1 (v2 - 10) h) (fun r132 => ?_)
          exact y_retI rfl (by decide) rfl rfl
def f_X7_set (v1 : Int32) (v2 : Int32) (v3 : Int32) (h : dH) : Option (Int32 × dH) := oP (f_X7_in (v1.toInt64) 0 3) (fun r1 => if r1.toInt = 0 then (some ((-2), h)) else (if 1 < v1.toInt then (oP (f_X7_isHouse v2 h) (fun r6 => if r6.toInt = 0 then (some ((-2), h)) else (oP (f_X7_isValue v1 v3) (fun r9 => if r9.toInt = 0 then (some ((-2), h)) else (oI (f_X7_told v2 v1 h) (fun r12 g13 => oV (f_X7_lays v1 v2 v3 g13) (fun g14 => some (r12, g14)))))))) else (oP (f_X7_isValue v1 v3) (fun r15 => if r15.toInt = 0 then (some ((-2), h)) else (oI (f_X7_told v2 v1 h) (fun r18 g19 => oV (f_X7_lays v1 v2 v3 g19) (fun g20 => some (r18, g20))))))))
theorem m_X7_set {d : Nat} (hd : 46 ≤ d) (v1 : Int32) (v2 : Int32) (v3 : Int32) (h : dH) : dX shM d 124 [.ref 0, .int v1, .int v2, .int v3] dI (f_X7_set v1 v2 v3 h) h := by
  obtain ⟨e, rfl⟩ : ∃ e, d = e + 1 := ⟨d - 1, by omega⟩
  have hd : 45 ≤ e := by omega
  refine dX_of (mj := mj124) (lo := [some (.ref 0), some (.int v1), some (.int v2), some (.int v3), none]) rfl (Nat.le_of_ble_eq_true rfl) rfl ?_
  unfold f_X7_set
  refine y_iload_n (q := 1) rfl rfl rfl ?_
  refine y_i2l (q := 2) rfl rfl ?_
  refine y_lconst (u := 0) (q := 3) rfl (by decide) rfl ?_
  refine y_ldc2_w (u := 3) (q := 6) rfl rfl rfl ?_
  refine y_callP (I := .invokestatic 91) (idx := 91) (KD := 0) (J := 128) (mj := mj118) (as := [.long v1.toInt64, .long 0, .long 3]) (r := []) (q := 9) rfl (fun _ _ _ _ _ _ => rfl) rfl (by decide) rfl rfl rfl rfl rfl (Nat.le_of_ble_eq_true rfl) rfl rfl (m_X7_in (Nat.le_trans (by decide) hd) (v1.toInt64) 0 3 h) (fun r1 => ?_)
  refine y_eq0 (q := 33) (q' := 12) rfl rfl rfl rfl (fun c2 => ?_) (fun c3 => ?_)
  · skip
    refine y_bipush (x := (-2)) (q := 35) rfl (by decide) rfl ?_
    exact y_retI rfl (by decide) rfl rfl
  · skip
    refine y_iload_n (q := 13) rfl rfl rfl ?_
    refine y_iconst (x := 1) (q := 14) rfl (by decide) rfl ?_
    refine y_le (q := 25) (q' := 17) rfl rfl (by decide) rfl rfl (fun c4 => ?_) (fun c5 => ?_)
    · skip
      refine y_aload_n (q := 18) rfl rfl rfl ?_
      refine y_iload_n (q := 19) rfl rfl rfl ?_
      refine y_callP (I := .invokevirtual 105) (idx := 105) (KD := 1) (J := 132) (mj := mj122) (as := [.ref 0, .int v2]) (r := []) (q := 22) rfl (fun _ _ _ _ _ _ => rfl) rfl (by decide) rfl rfl rfl rfl rfl (Nat.le_of_ble_eq_true rfl) (d_recv atM0 (by decide) (by decide)) rfl (m_X7_isHouse (Nat.le_trans (by decide) hd) v2 h) (fun r6 => ?_)
      refine y_eq0 (q := 33) (q' := 25) rfl rfl rfl rfl (fun c7 => ?_) (fun c8 => ?_)
      · skip
        refine y_bipush (x := (-2)) (q := 35) rfl (by decide) rfl ?_
        exact y_retI rfl (by decide) rfl rfl
      · skip
        refine y_iload_n (q := 26) rfl rfl rfl ?_
        refine y_iload_n (q := 27) rfl rfl rfl ?_
        refine y_callP (I := .invokestatic 109) (idx := 109) (KD := 0) (J := 133) (mj := mj123) (as := [.int v1, .int v3]) (r := []) (q := 30) rfl (fun _ _ _ _ _ _ => rfl) rfl (by decide) rfl rfl rfl rfl rfl (Nat.le_of_ble_eq_true rfl) rfl rfl (m_X7_isValue (Nat.le_trans (by decide) hd) v1 v3 h) (fun r9 => ?_)
        refine y_ne0 (q := 36) (q' := 33) rfl rfl rfl rfl (fun c10 => ?_) (fun c11 => ?_)
        · skip
          refine y_bipush (x := (-2)) (q := 35) rfl (by decide) rfl ?_
          exact y_retI rfl (by decide) rfl rfl
        · skip
          refine y_aload_n (q := 37) rfl rfl rfl ?_
          refine y_iload_n (q := 38) rfl rfl rfl ?_
          refine y_iload_n (q := 39) rfl rfl rfl ?_
          refine y_callI (I := .invokevirtual 113) (idx := 113) (KD := 1) (J := 141) (mj := mj131) (as := [.ref 0, .int v2, .int v1]) (r := []) (q := 42) rfl (fun _ _ _ _ _ _ => rfl) rfl (by decide) rfl rfl rfl rfl rfl (Nat.le_of_ble_eq_true rfl) (d_recv atM0 (by decide) (by decide)) rfl (m_X7_told (Nat.le_trans (by decide) hd) v2 v1 h) (fun r12 g13 => ?_)
          refine y_istore (lo' := [some (.ref 0), some (.int v1), some (.int v2), some (.int v3), some (.int r12)]) (q := 44) rfl (Nat.le_of_ble_eq_true rfl) rfl rfl ?_
          refine y_aload_n (q := 45) rfl rfl rfl ?_
          refine y_iload_n (q := 46) rfl rfl rfl ?_
          refine y_iload_n (q := 47) rfl rfl rfl ?_
          refine y_iload_n (q := 48) rfl rfl rfl ?_
          refine y_callV (I := .invokevirtual 117) (idx := 117) (KD := 1) (J := 135) (mj := mj125) (as := [.ref 0, .int v1, .int v2, .int v3]) (r := []) (q := 51) rfl (fun _ _ _ _ _ _ => rfl) rfl (by decide) rfl rfl rfl rfl rfl (Nat.le_of_ble_eq_true rfl) (d_recv atM0 (by decide) (by decide)) rfl (m_X7_lays (Nat.le_trans (by decide) hd) v1 v2 v3 g13) (fun g14 => ?_)
          refine y_iload (q := 53) rfl rfl rfl ?_
          exact y_retI rfl (by decide) rfl rfl
    · skip
      refine y_iload_n (q := 26) rfl rfl rfl ?_
      refine y_iload_n (q := 27) rfl rfl rfl ?_
      refine y_callP (I := .invokestatic 109) (idx := 109) (KD := 0) (J := 133) (mj := mj123) (as := [.int v1, .int v3]) (r := []) (q := 30) rfl (fun _ _ _ _ _ _ => rfl) rfl (by decide) rfl rfl rfl rfl rfl (Nat.le_of_ble_eq_true rfl) rfl rfl (m_X7_isValue (Nat.le_trans (by decide) hd) v1 v3 h) (fun r15 => ?_)
      refine y_ne0 (q := 36) (q' := 33) rfl rfl rfl rfl (fun c16 => ?_) (fun c17 => ?_)
      · skip
        refine y_bipush (x := (-2)) (q := 35) rfl (by decide) rfl ?_
        exact y_retI rfl (by decide) rfl rfl
      · skip
        refine y_aload_n (q := 37) rfl rfl rfl ?_
        refine y_iload_n (q := 38) rfl rfl rfl ?_
        refine y_iload_n (q := 39) rfl rfl rfl ?_
        refine y_callI (I := .invokevirtual 113) (idx := 113) (KD := 1) (J := 141) (mj := mj131) (as := [.ref 0, .int v2, .int v1]) (r := []) (q := 42) rfl (fun _ _ _ _ _ _ => rfl) rfl (by decide) rfl rfl rfl rfl rfl (Nat.le_of_ble_eq_true rfl) (d_recv atM0 (by decide) (by decide)) rfl (m_X7_told (Nat.le_trans (by decide) hd) v2 v1 h) (fun r18 g19 => ?_)
        refine y_istore (lo' := [some (.ref 0), some (.int v1), some (.int v2), some (.int v3), some (.int r18)]) (q := 44) rfl (Nat.le_of_ble_eq_true rfl) rfl rfl ?_
        refine y_aload_n (q := 45) rfl rfl rfl ?_
        refine y_iload_n (q := 46) rfl rfl rfl ?_
        refine y_iload_n (q := 47) rfl rfl rfl ?_
        refine y_iload_n (q := 48) rfl rfl rfl ?_
        refine y_callV (I := .invokevirtual 117) (idx := 117) (KD := 1) (J := 135) (mj := mj125) (as := [.ref 0, .int v1, .int v2, .int v3]) (r := []) (q := 51) rfl (fun _ _ _ _ _ _ => rfl) rfl (by decide) rfl rfl rfl rfl rfl (Nat.le_of_ble_eq_true rfl) (d_recv atM0 (by decide) (by decide)) rfl (m_X7_lays (Nat.le_trans (by decide) hd) v1 v2 v3 g19) (fun g20 => ?_)
        refine y_iload (q := 53) rfl rfl rfl ?_
        exact y_retI rfl (by decide) rfl rfl
def f_X7_binds (v1 : Int32) (v2 : Int32) (v3 : Int32) (h : dH) : Option (dH) := oP (f_X7_within v3 0 99) (fun r1 => if 0 ≤ ((8 * v1) + v2).toInt ∧ ((8 * v1) + v2).toInt < 64 then (oH (dU h 7 (((8 * v1) + v2).toInt.toNat) r1) (fun g2 => if 0 ≤ ((8 * v2) + v1).toInt ∧ ((8 * v2) + v1).toInt < 64 then (oH (dU g2 7 (((8 * v2) + v1).toInt.toNat) r1) (fun g4 => some g4)) else none)) else none)
theorem m_X7_binds {d : Nat} (hd : 2 ≤ d) (v1 : Int32) (v2 : Int32) (v3 : Int32) (h : dH) : dX shM d 127 [.ref 0, .int v1, .int v2, .int v3] dV (f_X7_binds v1 v2 v3 h) h := by
  obtain ⟨e, rfl⟩ : ∃ e, d = e + 1 := ⟨d - 1, by omega⟩
  have hd : 1 ≤ e := by omega
  refine dX_of (mj := mj127) (lo := [some (.ref 0), some (.int v1), some (.int v2), some (.int v3), none]) rfl (Nat.le_of_ble_eq_true rfl) rfl ?_
  unfold f_X7_binds
  refine y_iload_n (q := 1) rfl rfl rfl ?_
  refine y_iconst (x := 0) (q := 2) rfl (by decide) rfl ?_
  refine y_bipush (x := 99) (q := 4) rfl (by decide) rfl ?_
  refine y_callP (I := .invokestatic 127) (idx := 127) (KD := 0) (J := 129) (mj := mj119) (as := [.int v3, .int 0, .int 99]) (r := []) (q := 7) rfl (fun _ _ _ _ _ _ => rfl) rfl (by decide) rfl rfl rfl rfl rfl (Nat.le_of_ble_eq_true rfl) rfl rfl (m_X7_within (Nat.le_trans (by decide) hd) v3 0 99 h) (fun r1 => ?_)
  refine y_istore (lo' := [some (.ref 0), some (.int v1), some (.int v2), some (.int v3), some (.int r1)]) (q := 9) rfl (Nat.le_of_ble_eq_true rfl) rfl rfl ?_
  refine y_aload_n (q := 10) rfl rfl rfl ?_
  refine y_getR (b := 7) (q := 13) rfl rfl (by decide) atM0 rfl rfl ?_
  refine y_bipush (x := 8) (q := 15) rfl (by decide) rfl ?_
  refine y_iload_n (q := 16) rfl rfl rfl ?_
  refine y_imul (q := 17) rfl rfl ?_
  refine y_iload_n (q := 18) rfl rfl rfl ?_
  refine y_iadd (q := 19) rfl rfl ?_
  refine y_iload (q := 21) rfl rfl rfl ?_
  refine y_guard (fun c3 => ?_)
  refine y_iast (n := 64) (N := 64) (X := ((8 * v1) + v2).toInt) (K := ((8 * v1) + v2).toInt.toNat) (q := 22) rfl atM7 rfl rfl c3 rfl rfl (fun g2 => ?_)
  refine y_aload_n (q := 23) rfl rfl rfl ?_
  refine y_getR (b := 7) (q := 26) rfl rfl (by decide) atM0 rfl rfl ?_
  refine y_bipush (x := 8) (q := 28) rfl (by decide) rfl ?_
  refine y_iload_n (q := 29) rfl rfl rfl ?_
  refine y_imul (q := 30) rfl rfl ?_
  refine y_iload_n (q := 31) rfl rfl rfl ?_
  refine y_iadd (q := 32) rfl rfl ?_
  refine y_iload (q := 34) rfl rfl rfl ?_
  refine y_guard (fun c5 => ?_)
  refine y_iast (n := 64) (N := 64) (X := ((8 * v2) + v1).toInt) (K := ((8 * v2) + v1).toInt.toNat) (q := 35) rfl atM7 rfl rfl c5 rfl rfl (fun g4 => ?_)
  exact y_retV rfl rfl rfl
def l_X7_house_71  (k : dH → Option (Int32 × dH)) : Nat → Int32 → dH → Option (Int32 × dH)
  | 0, _, _ => none
  | n + 1, v3, h => if v3.toInt < 8 then (oV (f_X7_binds (h 0 13) v3 0 h) (fun g17 => l_X7_house_71  k n (v3 + 1) g17)) else (k  h)
theorem lz_X7_house_71 {d : Nat} (hd : 2 ≤ d) (v1 : Int32) (v2 : Int32) (k : dH → Option (Int32 × dH)) (hk : ∀ (w3 : Int32) (h : dH), dY shM d mj128 dI (k h) 93 [some (.ref 0), some (.int v1), some (.int v2), some (.int w3)] [] h) : ∀ (n : Nat) (v3 : Int32) (h : dH), dY shM d mj128 dI (l_X7_house_71  k n v3 h) 71 [some (.ref 0), some (.int v1), some (.int v2), some (.int v3)] [] h
  | 0, _, _ => dY_none
  | n + 1, v3, h => by
    rw [l_X7_house_71]
    refine y_iload_n (q := 72) rfl rfl rfl ?_
    refine y_bipush (x := 8) (q := 74) rfl (by decide) rfl ?_
    refine y_ge (q := 93) (q' := 77) rfl rfl (by decide) rfl rfl (fun c15 => ?_) (fun c16 => ?_)
    · skip
      refine y_aload_n (q := 78) rfl rfl rfl ?_
      refine y_aload_n (q := 79) rfl rfl rfl ?_
      refine y_getI (q := 82) rfl rfl (by decide) atM0 rfl rfl ?_
      refine y_iload_n (q := 83) rfl rfl rfl ?_
      refine y_iconst (x := 0) (q := 84) rfl (by decide) rfl ?_
      refine y_callV (I := .invokevirtual 133) (idx := 133) (KD := 1) (J := 137) (mj := mj127) (as := [.ref 0, .int (h 0 13), .int v3, .int 0]) (r := []) (q := 87) rfl (fun _ _ _ _ _ _ => rfl) rfl (by decide) rfl rfl rfl rfl rfl (Nat.le_of_ble_eq_true rfl) (d_recv atM0 (by decide) (by decide)) rfl (m_X7_binds (Nat.le_trans (by decide) hd) (h 0 13) v3 0 h) (fun g17 => ?_)
      refine y_iinc (z := (v3 + 1)) (lo' := [some (.ref 0), some (.int v1), some (.int v2), some (.int (v3 + 1))]) (q := 90) rfl rfl (Nat.le_of_ble_eq_true rfl) (by rw [oi_1]) rfl rfl ?_
      refine y_goto (q := 71) rfl rfl ?_
      exact lz_X7_house_71 hd v1 v2 k hk n (v3 + 1) g17 
    · skip
      exact hk  v3 h
def f_X7_house (v1 : Int32) (v2 : Int32) (h : dH) : Option (Int32 × dH) := oP (f_X7_in (v1.toInt64) 0 5) (fun r1 => if r1.toInt = 0 then (some ((-2), h)) else (oP (f_X7_in (v2.toInt64) 0 9) (fun r4 => if r4.toInt = 0 then (some ((-2), h)) else (if (h 0 13).toInt = 8 then (some ((-4), h)) else (if 0 ≤ (h 0 13).toInt ∧ (h 0 13).toInt < 8 then (oH (dU h 4 ((h 0 13).toInt.toNat) v1) (fun g9 => if 0 ≤ (g9 0 13).toInt ∧ (g9 0 13).toInt < 8 then (oH (dU g9 5 ((g9 0 13).toInt.toNat) v2) (fun g11 => if 0 ≤ (g11 0 13).toInt ∧ (g11 0 13).toInt < 8 then (oH (dU g11 6 ((g11 0 13).toInt.toNat) (-1)) (fun g13 => l_X7_house_71   (fun g19 => oH (dU g19 0 13 ((g19 0 13) + 1)) (fun g20 => some (((g20 0 13) - 1), g20))) fuel0 0 g13)) else none)) else none)) else none)))))
theorem m_X7_house {d : Nat} (hd : 3 ≤ d) (v1 : Int32) (v2 : Int32) (h : dH) : dX shM d 128 [.ref 0, .int v1, .int v2] dI (f_X7_house v1 v2 h) h := by
  obtain ⟨e, rfl⟩ : ∃ e, d = e + 1 := ⟨d - 1, by omega⟩
  have hd : 2 ≤ e := by omega
  refine dX_of (mj := mj128) (lo := [some (.ref 0), some (.int v1), some (.int v2), none]) rfl (Nat.le_of_ble_eq_true rfl) rfl ?_
  unfold f_X7_house
  refine y_iload_n (q := 1) rfl rfl rfl ?_
  refine y_i2l (q := 2) rfl rfl ?_
  refine y_lconst (u := 0) (q := 3) rfl (by decide) rfl ?_
  refine y_ldc2_w (u := 5) (q := 6) rfl rfl rfl ?_
  refine y_callP (I := .invokestatic 91) (idx := 91) (KD := 0) (J := 128) (mj := mj118) (as := [.long v1.toInt64, .long 0, .long 5]) (r := []) (q := 9) rfl (fun _ _ _ _ _ _ => rfl) rfl (by decide) rfl rfl rfl rfl rfl (Nat.le_of_ble_eq_true rfl) rfl rfl (m_X7_in (Nat.le_trans (by decide) hd) (v1.toInt64) 0 5 h) (fun r1 => ?_)
  refine y_eq0 (q := 24) (q' := 12) rfl rfl rfl rfl (fun c2 => ?_) (fun c3 => ?_)
  · skip
    refine y_bipush (x := (-2)) (q := 26) rfl (by decide) rfl ?_
    exact y_retI rfl (by decide) rfl rfl
  · skip
    refine y_iload_n (q := 13) rfl rfl rfl ?_
    refine y_i2l (q := 14) rfl rfl ?_
    refine y_lconst (u := 0) (q := 15) rfl (by decide) rfl ?_
    refine y_ldc2_w (u := 9) (q := 18) rfl rfl rfl ?_
    refine y_callP (I := .invokestatic 91) (idx := 91) (KD := 0) (J := 128) (mj := mj118) (as := [.long v2.toInt64, .long 0, .long 9]) (r := []) (q := 21) rfl (fun _ _ _ _ _ _ => rfl) rfl (by decide) rfl rfl rfl rfl rfl (Nat.le_of_ble_eq_true rfl) rfl rfl (m_X7_in (Nat.le_trans (by decide) hd) (v2.toInt64) 0 9 h) (fun r4 => ?_)
    refine y_ne0 (q := 27) (q' := 24) rfl rfl rfl rfl (fun c5 => ?_) (fun c6 => ?_)
    · skip
      refine y_bipush (x := (-2)) (q := 26) rfl (by decide) rfl ?_
      exact y_retI rfl (by decide) rfl rfl
    · skip
      refine y_aload_n (q := 28) rfl rfl rfl ?_
      refine y_getI (q := 31) rfl rfl (by decide) atM0 rfl rfl ?_
      refine y_bipush (x := 8) (q := 33) rfl (by decide) rfl ?_
      refine y_ne (q := 39) (q' := 36) rfl rfl (by decide) rfl rfl (fun c7 => ?_) (fun c8 => ?_)
      · skip
        refine y_bipush (x := (-4)) (q := 38) rfl (by decide) rfl ?_
        exact y_retI rfl (by decide) rfl rfl
      · skip
        refine y_aload_n (q := 40) rfl rfl rfl ?_
        refine y_getR (b := 4) (q := 43) rfl rfl (by decide) atM0 rfl rfl ?_
        refine y_aload_n (q := 44) rfl rfl rfl ?_
        refine y_getI (q := 47) rfl rfl (by decide) atM0 rfl rfl ?_
        refine y_iload_n (q := 48) rfl rfl rfl ?_
        refine y_guard (fun c10 => ?_)
        refine y_iast (n := 8) (N := 8) (X := (h 0 13).toInt) (K := (h 0 13).toInt.toNat) (q := 49) rfl atM4 rfl rfl c10 rfl rfl (fun g9 => ?_)
        refine y_aload_n (q := 50) rfl rfl rfl ?_
        refine y_getR (b := 5) (q := 53) rfl rfl (by decide) atM0 rfl rfl ?_
        refine y_aload_n (q := 54) rfl rfl rfl ?_
        refine y_getI (q := 57) rfl rfl (by decide) atM0 rfl rfl ?_
        refine y_iload_n (q := 58) rfl rfl rfl ?_
        refine y_guard (fun c12 => ?_)
        refine y_iast (n := 8) (N := 8) (X := (g9 0 13).toInt) (K := (g9 0 13).toInt.toNat) (q := 59) rfl atM5 rfl rfl c12 rfl rfl (fun g11 => ?_)
        refine y_aload_n (q := 60) rfl rfl rfl ?_
        refine y_getR (b := 6) (q := 63) rfl rfl (by decide) atM0 rfl rfl ?_
        refine y_aload_n (q := 64) rfl rfl rfl ?_
        refine y_getI (q := 67) rfl rfl (by decide) atM0 rfl rfl ?_
        refine y_iconst (x := (-1)) (q := 68) rfl (by decide) rfl ?_
        refine y_guard (fun c14 => ?_)
        refine y_iast (n := 8) (N := 8) (X := (g11 0 13).toInt) (K := (g11 0 13).toInt.toNat) (q := 69) rfl atM6 rfl rfl c14 rfl rfl (fun g13 => ?_)
        refine y_iconst (x := 0) (q := 70) rfl (by decide) rfl ?_
        refine y_istore_n (lo' := [some (.ref 0), some (.int v1), some (.int v2), some (.int 0)]) (q := 71) rfl (Nat.le_of_ble_eq_true rfl) rfl rfl ?_
        refine lz_X7_house_71 hd v1 v2  _ (fun z18 g19 => ?_) fuel0 0 g13 
        refine y_aload_n (q := 94) rfl rfl rfl ?_
        refine y_dup (q := 95) rfl rfl ?_
        refine y_getI (q := 98) rfl rfl (by decide) atM0 rfl rfl ?_
        refine y_iconst (x := 1) (q := 99) rfl (by decide) rfl ?_
        refine y_iadd (q := 100) rfl rfl ?_
        refine y_putI (q := 103) rfl rfl (by decide) atM0 rfl rfl rfl rfl (fun g20 => ?_)
        refine y_aload_n (q := 104) rfl rfl rfl ?_
        refine y_getI (q := 107) rfl rfl (by decide) atM0 rfl rfl ?_
        refine y_iconst (x := 1) (q := 108) rfl (by decide) rfl ?_
        refine y_isub (q := 109) rfl rfl ?_
        exact y_retI rfl (by decide) rfl rfl
def f_X7_areTwo (v1 : Int32) (v2 : Int32) (h : dH) : Option (Int32) := oP (f_X7_isHouse v1 h) (fun r1 => if r1.toInt = 0 then ((some 0)) else (oP (f_X7_isHouse v2 h) (fun r4 => if r4.toInt = 0 then ((some 0)) else (if v1.toInt = v2.toInt then ((some 0)) else ((some 1))))))
theorem m_X7_areTwo {d : Nat} (hd : 3 ≤ d) (v1 : Int32) (v2 : Int32) (h : dH) : dX shM d 129 [.ref 0, .int v1, .int v2] (dP h) (f_X7_areTwo v1 v2 h) h := by
  obtain ⟨e, rfl⟩ : ∃ e, d = e + 1 := ⟨d - 1, by omega⟩
  have hd : 2 ≤ e := by omega
  refine dX_of (mj := mj129) (lo := [some (.ref 0), some (.int v1), some (.int v2)]) rfl (Nat.le_of_ble_eq_true rfl) rfl ?_
  unfold f_X7_areTwo
  refine y_aload_n (q := 1) rfl rfl rfl ?_
  refine y_iload_n (q := 2) rfl rfl rfl ?_
  refine y_callP (I := .invokevirtual 105) (idx := 105) (KD := 1) (J := 132) (mj := mj122) (as := [.ref 0, .int v1]) (r := []) (q := 5) rfl (fun _ _ _ _ _ _ => rfl) rfl (by decide) rfl rfl rfl rfl rfl (Nat.le_of_ble_eq_true rfl) (d_recv atM0 (by decide) (by decide)) rfl (m_X7_isHouse (Nat.le_trans (by decide) hd) v1 h) (fun r1 => ?_)
  refine y_eq0 (q := 25) (q' := 8) rfl rfl rfl rfl (fun c2 => ?_) (fun c3 => ?_)
  · skip
    refine y_iconst (x := 0) (q := 26) rfl (by decide) rfl ?_
    exact y_retP rfl (by decide) rfl rfl
  · skip
    refine y_aload_n (q := 9) rfl rfl rfl ?_
    refine y_iload_n (q := 10) rfl rfl rfl ?_
    refine y_callP (I := .invokevirtual 105) (idx := 105) (KD := 1) (J := 132) (mj := mj122) (as := [.ref 0, .int v2]) (r := []) (q := 13) rfl (fun _ _ _ _ _ _ => rfl) rfl (by decide) rfl rfl rfl rfl rfl (Nat.le_of_ble_eq_true rfl) (d_recv atM0 (by decide) (by decide)) rfl (m_X7_isHouse (Nat.le_trans (by decide) hd) v2 h) (fun r4 => ?_)
    refine y_eq0 (q := 25) (q' := 16) rfl rfl rfl rfl (fun c5 => ?_) (fun c6 => ?_)
    · skip
      refine y_iconst (x := 0) (q := 26) rfl (by decide) rfl ?_
      exact y_retP rfl (by decide) rfl rfl
    · skip
      refine y_iload_n (q := 17) rfl rfl rfl ?_
      refine y_iload_n (q := 18) rfl rfl rfl ?_
      refine y_eq (q := 25) (q' := 21) rfl rfl rfl rfl rfl (fun c7 => ?_) (fun c8 => ?_)
      · skip
        refine y_iconst (x := 0) (q := 26) rfl (by decide) rfl ?_
        exact y_retP rfl (by decide) rfl rfl
      · skip
        refine y_iconst (x := 1) (q := 22) rfl (by decide) rfl ?_
        refine y_goto (q := 26) rfl rfl ?_
        exact y_retP rfl (by decide) rfl rfl
def f_X7_bind (v1 : Int32) (v2 : Int32) (v3 : Int32) (h : dH) : Option (Int32 × dH) := oP (f_X7_areTwo v1 v2 h) (fun r1 => if r1.toInt = 0 then (some ((-2), h)) else (oP (f_X7_in (v3.toInt64) 0 99) (fun r4 => if r4.toInt = 0 then (some ((-2), h)) else (oP (f_X7_strengthOf v1 v2 h) (fun r7 => oV (f_X7_binds v1 v2 v3 h) (fun g8 => some (r7, g8)))))))
theorem m_X7_bind {d : Nat} (hd : 4 ≤ d) (v1 : Int32) (v2 : Int32) (v3 : Int32) (h : dH) : dX shM d 130 [.ref 0, .int v1, .int v2, .int v3] dI (f_X7_bind v1 v2 v3 h) h := by
  obtain ⟨e, rfl⟩ : ∃ e, d = e + 1 := ⟨d - 1, by omega⟩
  have hd : 3 ≤ e := by omega
  refine dX_of (mj := mj130) (lo := [some (.ref 0), some (.int v1), some (.int v2), some (.int v3), none]) rfl (Nat.le_of_ble_eq_true rfl) rfl ?_
  unfold f_X7_bind
  refine y_aload_n (q := 1) rfl rfl rfl ?_
  refine y_iload_n (q := 2) rfl rfl rfl ?_
  refine y_iload_n (q := 3) rfl rfl rfl ?_
  refine y_callP (I := .invokevirtual 136) (idx := 136) (KD := 1) (J := 139) (mj := mj129) (as := [.ref 0, .int v1, .int v2]) (r := []) (q := 6) rfl (fun _ _ _ _ _ _ => rfl) rfl (by decide) rfl rfl rfl rfl rfl (Nat.le_of_ble_eq_true rfl) (d_recv atM0 (by decide) (by decide)) rfl (m_X7_areTwo (Nat.le_trans (by decide) hd) v1 v2 h) (fun r1 => ?_)
  refine y_eq0 (q := 21) (q' := 9) rfl rfl rfl rfl (fun c2 => ?_) (fun c3 => ?_)
  · skip
    refine y_bipush (x := (-2)) (q := 23) rfl (by decide) rfl ?_
    exact y_retI rfl (by decide) rfl rfl
  · skip
    refine y_iload_n (q := 10) rfl rfl rfl ?_
    refine y_i2l (q := 11) rfl rfl ?_
    refine y_lconst (u := 0) (q := 12) rfl (by decide) rfl ?_
    refine y_ldc2_w (u := 99) (q := 15) rfl rfl rfl ?_
    refine y_callP (I := .invokestatic 91) (idx := 91) (KD := 0) (J := 128) (mj := mj118) (as := [.long v3.toInt64, .long 0, .long 99]) (r := []) (q := 18) rfl (fun _ _ _ _ _ _ => rfl) rfl (by decide) rfl rfl rfl rfl rfl (Nat.le_of_ble_eq_true rfl) rfl rfl (m_X7_in (Nat.le_trans (by decide) hd) (v3.toInt64) 0 99 h) (fun r4 => ?_)
    refine y_ne0 (q := 24) (q' := 21) rfl rfl rfl rfl (fun c5 => ?_) (fun c6 => ?_)
    · skip
      refine y_bipush (x := (-2)) (q := 23) rfl (by decide) rfl ?_
      exact y_retI rfl (by decide) rfl rfl
    · skip
      refine y_aload_n (q := 25) rfl rfl rfl ?_
      refine y_iload_n (q := 26) rfl rfl rfl ?_
      refine y_iload_n (q := 27) rfl rfl rfl ?_
      refine y_callP (I := .invokevirtual 139) (idx := 139) (KD := 1) (J := 136) (mj := mj126) (as := [.ref 0, .int v1, .int v2]) (r := []) (q := 30) rfl (fun _ _ _ _ _ _ => rfl) rfl (by decide) rfl rfl rfl rfl rfl (Nat.le_of_ble_eq_true rfl) (d_recv atM0 (by decide) (by decide)) rfl (m_X7_strengthOf (Nat.le_trans (by decide) hd) v1 v2 h) (fun r7 => ?_)
      refine y_istore (lo' := [some (.ref 0), some (.int v1), some (.int v2), some (.int v3), some (.int r7)]) (q := 32) rfl (Nat.le_of_ble_eq_true rfl) rfl rfl ?_
      refine y_aload_n (q := 33) rfl rfl rfl ?_
      refine y_iload_n (q := 34) rfl rfl rfl ?_
      refine y_iload_n (q := 35) rfl rfl rfl ?_
      refine y_iload_n (q := 36) rfl rfl rfl ?_
      refine y_callV (I := .invokevirtual 133) (idx := 133) (KD := 1) (J := 137) (mj := mj127) (as := [.ref 0, .int v1, .int v2, .int v3]) (r := []) (q := 39) rfl (fun _ _ _ _ _ _ => rfl) rfl (by decide) rfl rfl rfl rfl rfl (Nat.le_of_ble_eq_true rfl) (d_recv atM0 (by decide) (by decide)) rfl (m_X7_binds (Nat.le_trans (by decide) hd) v1 v2 v3 h) (fun g8 => ?_)
      refine y_iload (q := 41) rfl rfl rfl ?_
      exact y_retI rfl (by decide) rfl rfl
def f_X7_feed (v1 : Int32) (h : dH) : Option (Int32 × dH) := oP (f_X7_in (v1.toInt64) 0 255) (fun r1 => if r1.toInt = 0 then (some ((-2), h)) else (if (h 0 6).toInt = 160 then (some ((-4), h)) else (if 0 ≤ (h 0 6).toInt ∧ (h 0 6).toInt < 160 then (oH (dU h 3 ((h 0 6).toInt.toNat) v1) (fun g6 => oH (dU g6 0 6 ((g6 0 6) + 1)) (fun g8 => some ((g8 0 6), g8)))) else none)))
theorem m_X7_feed {d : Nat} (hd : 2 ≤ d) (v1 : Int32) (h : dH) : dX shM d 133 [.ref 0, .int v1] dI (f_X7_feed v1 h) h := by
  obtain ⟨e, rfl⟩ : ∃ e, d = e + 1 := ⟨d - 1, by omega⟩
  have hd : 1 ≤ e := by omega
  refine dX_of (mj := mj133) (lo := [some (.ref 0), some (.int v1)]) rfl (Nat.le_of_ble_eq_true rfl) rfl ?_
  unfold f_X7_feed
  refine y_iload_n (q := 1) rfl rfl rfl ?_
  refine y_i2l (q := 2) rfl rfl ?_
  refine y_lconst (u := 0) (q := 3) rfl (by decide) rfl ?_
  refine y_ldc2_w (u := 255) (q := 6) rfl rfl rfl ?_
  refine y_callP (I := .invokestatic 91) (idx := 91) (KD := 0) (J := 128) (mj := mj118) (as := [.long v1.toInt64, .long 0, .long 255]) (r := []) (q := 9) rfl (fun _ _ _ _ _ _ => rfl) rfl (by decide) rfl rfl rfl rfl rfl (Nat.le_of_ble_eq_true rfl) rfl rfl (m_X7_in (Nat.le_trans (by decide) hd) (v1.toInt64) 0 255 h) (fun r1 => ?_)
  refine y_ne0 (q := 15) (q' := 12) rfl rfl rfl rfl (fun c2 => ?_) (fun c3 => ?_)
  · skip
    refine y_bipush (x := (-2)) (q := 14) rfl (by decide) rfl ?_
    exact y_retI rfl (by decide) rfl rfl
  · skip
    refine y_aload_n (q := 16) rfl rfl rfl ?_
    refine y_getI (q := 19) rfl rfl (by decide) atM0 rfl rfl ?_
    refine y_sipush (x := 160) (q := 22) rfl (by decide) rfl ?_
    refine y_ne (q := 28) (q' := 25) rfl rfl (by decide) rfl rfl (fun c4 => ?_) (fun c5 => ?_)
    · skip
      refine y_bipush (x := (-4)) (q := 27) rfl (by decide) rfl ?_
      exact y_retI rfl (by decide) rfl rfl
    · skip
      refine y_aload_n (q := 29) rfl rfl rfl ?_
      refine y_getR (b := 3) (q := 32) rfl rfl (by decide) atM0 rfl rfl ?_
      refine y_aload_n (q := 33) rfl rfl rfl ?_
      refine y_getI (q := 36) rfl rfl (by decide) atM0 rfl rfl ?_
      refine y_iload_n (q := 37) rfl rfl rfl ?_
      refine y_guard (fun c7 => ?_)
      refine y_iast (n := 160) (N := 160) (X := (h 0 6).toInt) (K := (h 0 6).toInt.toNat) (q := 38) rfl atM3 rfl rfl c7 rfl rfl (fun g6 => ?_)
      refine y_aload_n (q := 39) rfl rfl rfl ?_
      refine y_dup (q := 40) rfl rfl ?_
      refine y_getI (q := 43) rfl rfl (by decide) atM0 rfl rfl ?_
      refine y_iconst (x := 1) (q := 44) rfl (by decide) rfl ?_
      refine y_iadd (q := 45) rfl rfl ?_
      refine y_putI (q := 48) rfl rfl (by decide) atM0 rfl rfl rfl rfl (fun g8 => ?_)
      refine y_aload_n (q := 49) rfl rfl rfl ?_
      refine y_getI (q := 52) rfl rfl (by decide) atM0 rfl rfl ?_
      exact y_retI rfl (by decide) rfl rfl
def l_X7_text_14  (k : dH → Option (Int32 × dH)) : Nat → Int32 → dH → Option (Int32 × dH)
  | 0, _, _ => none
  | n + 1, v1, h => if v1.toInt < (h 0 6).toInt then (if 0 ≤ v1.toInt ∧ v1.toInt < 160 then (if 0 ≤ ((160 * (h 0 3)) + v1).toInt ∧ ((160 * (h 0 3)) + v1).toInt < 960 then (oH (dU h 1 (((160 * (h 0 3)) + v1).toInt.toNat) (h 3 (v1.toInt.toNat))) (fun g6 => l_X7_text_14  k n (v1 + 1) g6)) else none) else none) else (k  h)
theorem lz_X7_text_14 {d : Nat} (hd : 42 ≤ d)  (k : dH → Option (Int32 × dH)) (hk : ∀ (w1 : Int32) (h : dH), dY shM d mj180 dI (k h) 49 [some (.ref 0), some (.int w1)] [] h) : ∀ (n : Nat) (v1 : Int32) (h : dH), dY shM d mj180 dI (l_X7_text_14  k n v1 h) 14 [some (.ref 0), some (.int v1)] [] h
  | 0, _, _ => dY_none
  | n + 1, v1, h => by
    rw [l_X7_text_14]
    refine y_iload_n (q := 15) rfl rfl rfl ?_
    refine y_aload_n (q := 16) rfl rfl rfl ?_
    refine y_getI (q := 19) rfl rfl (by decide) atM0 rfl rfl ?_
    refine y_ge (q := 49) (q' := 22) rfl rfl rfl rfl rfl (fun c3 => ?_) (fun c4 => ?_)
    · skip
      refine y_aload_n (q := 23) rfl rfl rfl ?_
      refine y_getR (b := 1) (q := 26) rfl rfl (by decide) atM0 rfl rfl ?_
      refine y_sipush (x := 160) (q := 29) rfl (by decide) rfl ?_
      refine y_aload_n (q := 30) rfl rfl rfl ?_
      refine y_getI (q := 33) rfl rfl (by decide) atM0 rfl rfl ?_
      refine y_imul (q := 34) rfl rfl ?_
      refine y_iload_n (q := 35) rfl rfl rfl ?_
      refine y_iadd (q := 36) rfl rfl ?_
      refine y_aload_n (q := 37) rfl rfl rfl ?_
      refine y_getR (b := 3) (q := 40) rfl rfl (by decide) atM0 rfl rfl ?_
      refine y_iload_n (q := 41) rfl rfl rfl ?_
      refine y_guard (fun c5 => ?_)
      refine y_iald (n := 160) (N := 160) (X := v1.toInt) (K := v1.toInt.toNat) (q := 42) hbM rfl atM3 rfl rfl c5 rfl rfl ?_
      refine y_guard (fun c7 => ?_)
      refine y_iast (n := 960) (N := 960) (X := ((160 * (h 0 3)) + v1).toInt) (K := ((160 * (h 0 3)) + v1).toInt.toNat) (q := 43) rfl atM1 rfl rfl c7 rfl rfl (fun g6 => ?_)
      refine y_iinc (z := (v1 + 1)) (lo' := [some (.ref 0), some (.int (v1 + 1))]) (q := 46) rfl rfl (Nat.le_of_ble_eq_true rfl) (by rw [oi_1]) rfl rfl ?_
      refine y_goto (q := 14) rfl rfl ?_
      exact lz_X7_text_14 hd  k hk n (v1 + 1) g6 
    · skip
      exact hk  v1 h
def f_X7_text  (h : dH) : Option (Int32 × dH) := if (h 0 3).toInt = 6 then (some ((-4), h)) else (l_X7_text_14   (fun g9 => if 0 ≤ (g9 0 3).toInt ∧ (g9 0 3).toInt < 6 then (oH (dU g9 2 ((g9 0 3).toInt.toNat) (g9 0 6)) (fun g10 => oH (dU g10 0 6 0) (fun g12 => oI (f_X7_read (g12 0 3) 0 g12) (fun r13 g14 => if (g14 0 27).toInt = 0 then (oH (dU g14 0 3 ((g14 0 3) + 1)) (fun g17 => some (((g17 0 3) - 1), g17))) else (some (((-100) - (g14 0 28)), g14)))))) else none) fuel0 0 h)
theorem m_X7_text {d : Nat} (hd : 43 ≤ d)  (h : dH) : dX shM d 180 [.ref 0] dI (f_X7_text  h) h := by
  obtain ⟨e, rfl⟩ : ∃ e, d = e + 1 := ⟨d - 1, by omega⟩
  have hd : 42 ≤ e := by omega
  refine dX_of (mj := mj180) (lo := [some (.ref 0), none]) rfl (Nat.le_of_ble_eq_true rfl) rfl ?_
  unfold f_X7_text
  refine y_aload_n (q := 1) rfl rfl rfl ?_
  refine y_getI (q := 4) rfl rfl (by decide) atM0 rfl rfl ?_
  refine y_bipush (x := 6) (q := 6) rfl (by decide) rfl ?_
  refine y_ne (q := 12) (q' := 9) rfl rfl (by decide) rfl rfl (fun c1 => ?_) (fun c2 => ?_)
  · skip
    refine y_bipush (x := (-4)) (q := 11) rfl (by decide) rfl ?_
    exact y_retI rfl (by decide) rfl rfl
  · skip
    refine y_iconst (x := 0) (q := 13) rfl (by decide) rfl ?_
    refine y_istore_n (lo' := [some (.ref 0), some (.int 0)]) (q := 14) rfl (Nat.le_of_ble_eq_true rfl) rfl rfl ?_
    refine lz_X7_text_14 hd   _ (fun z8 g9 => ?_) fuel0 0 h 
    refine y_aload_n (q := 50) rfl rfl rfl ?_
    refine y_getR (b := 2) (q := 53) rfl rfl (by decide) atM0 rfl rfl ?_
    refine y_aload_n (q := 54) rfl rfl rfl ?_
    refine y_getI (q := 57) rfl rfl (by decide) atM0 rfl rfl ?_
    refine y_aload_n (q := 58) rfl rfl rfl ?_
    refine y_getI (q := 61) rfl rfl (by decide) atM0 rfl rfl ?_
    refine y_guard (fun c11 => ?_)
    refine y_iast (n := 6) (N := 6) (X := (g9 0 3).toInt) (K := (g9 0 3).toInt.toNat) (q := 62) rfl atM2 rfl rfl c11 rfl rfl (fun g10 => ?_)
    refine y_aload_n (q := 63) rfl rfl rfl ?_
    refine y_iconst (x := 0) (q := 64) rfl (by decide) rfl ?_
    refine y_putI (q := 67) rfl rfl (by decide) atM0 rfl rfl rfl rfl (fun g12 => ?_)
    refine y_aload_n (q := 68) rfl rfl rfl ?_
    refine y_aload_n (q := 69) rfl rfl rfl ?_
    refine y_getI (q := 72) rfl rfl (by decide) atM0 rfl rfl ?_
    refine y_iconst (x := 0) (q := 73) rfl (by decide) rfl ?_
    refine y_callI (I := .invokevirtual 361) (idx := 361) (KD := 1) (J := 189) (mj := mj179) (as := [.ref 0, .int (g12 0 3), .int 0]) (r := []) (q := 76) rfl (fun _ _ _ _ _ _ => rfl) rfl (by decide) rfl rfl rfl rfl rfl (Nat.le_of_ble_eq_true rfl) (d_recv atM0 (by decide) (by decide)) rfl (m_X7_read (Nat.le_trans (by decide) hd) (g12 0 3) 0 g12) (fun r13 g14 => ?_)
    refine y_istore_n (lo' := [some (.ref 0), some (.int r13)]) (q := 77) rfl (Nat.le_of_ble_eq_true rfl) rfl rfl ?_
    refine y_aload_n (q := 78) rfl rfl rfl ?_
    refine y_getI (q := 81) rfl rfl (by decide) atM0 rfl rfl ?_
    refine y_eq0 (q := 92) (q' := 84) rfl rfl rfl rfl (fun c15 => ?_) (fun c16 => ?_)
    · skip
      refine y_aload_n (q := 93) rfl rfl rfl ?_
      refine y_dup (q := 94) rfl rfl ?_
      refine y_getI (q := 97) rfl rfl (by decide) atM0 rfl rfl ?_
      refine y_iconst (x := 1) (q := 98) rfl (by decide) rfl ?_
      refine y_iadd (q := 99) rfl rfl ?_
      refine y_putI (q := 102) rfl rfl (by decide) atM0 rfl rfl rfl rfl (fun g17 => ?_)
      refine y_aload_n (q := 103) rfl rfl rfl ?_
      refine y_getI (q := 106) rfl rfl (by decide) atM0 rfl rfl ?_
      refine y_iconst (x := 1) (q := 107) rfl (by decide) rfl ?_
      refine y_isub (q := 108) rfl rfl ?_
      exact y_retI rfl (by decide) rfl rfl
    · skip
      refine y_bipush (x := (-100)) (q := 86) rfl (by decide) rfl ?_
      refine y_aload_n (q := 87) rfl rfl rfl ?_
      refine y_getI (q := 90) rfl rfl (by decide) atM0 rfl rfl ?_
      refine y_isub (q := 91) rfl rfl ?_
      exact y_retI rfl (by decide) rfl rfl
def f_X7_force (v1 : Int32) (h : dH) : Option (Int32 × dH) := oP (f_X7_in (v1.toInt64) 0 (((h 0 3) - 1).toInt64)) (fun r1 => if r1.toInt = 0 then (some ((-2), h)) else (oH (dU h 0 4 v1) (fun g4 => some ((h 0 4), g4))))
theorem m_X7_force {d : Nat} (hd : 2 ≤ d) (v1 : Int32) (h : dH) : dX shM d 181 [.ref 0, .int v1] dI (f_X7_force v1 h) h := by
  obtain ⟨e, rfl⟩ : ∃ e, d = e + 1 := ⟨d - 1, by omega⟩
  have hd : 1 ≤ e := by omega
  refine dX_of (mj := mj181) (lo := [some (.ref 0), some (.int v1), none]) rfl (Nat.le_of_ble_eq_true rfl) rfl ?_
  unfold f_X7_force
  refine y_iload_n (q := 1) rfl rfl rfl ?_
  refine y_i2l (q := 2) rfl rfl ?_
  refine y_lconst (u := 0) (q := 3) rfl (by decide) rfl ?_
  refine y_aload_n (q := 4) rfl rfl rfl ?_
  refine y_getI (q := 7) rfl rfl (by decide) atM0 rfl rfl ?_
  refine y_iconst (x := 1) (q := 8) rfl (by decide) rfl ?_
  refine y_isub (q := 9) rfl rfl ?_
  refine y_i2l (q := 10) rfl rfl ?_
  refine y_callP (I := .invokestatic 91) (idx := 91) (KD := 0) (J := 128) (mj := mj118) (as := [.long v1.toInt64, .long 0, .long ((h 0 3) - 1).toInt64]) (r := []) (q := 13) rfl (fun _ _ _ _ _ _ => rfl) rfl (by decide) rfl rfl rfl rfl rfl (Nat.le_of_ble_eq_true rfl) rfl rfl (m_X7_in (Nat.le_trans (by decide) hd) (v1.toInt64) 0 (((h 0 3) - 1).toInt64) h) (fun r1 => ?_)
  refine y_ne0 (q := 19) (q' := 16) rfl rfl rfl rfl (fun c2 => ?_) (fun c3 => ?_)
  · skip
    refine y_bipush (x := (-2)) (q := 18) rfl (by decide) rfl ?_
    exact y_retI rfl (by decide) rfl rfl
  · skip
    refine y_aload_n (q := 20) rfl rfl rfl ?_
    refine y_getI (q := 23) rfl rfl (by decide) atM0 rfl rfl ?_
    refine y_istore_n (lo' := [some (.ref 0), some (.int v1), some (.int (h 0 4))]) (q := 24) rfl (Nat.le_of_ble_eq_true rfl) rfl rfl ?_
    refine y_aload_n (q := 25) rfl rfl rfl ?_
    refine y_iload_n (q := 26) rfl rfl rfl ?_
    refine y_putI (q := 29) rfl rfl (by decide) atM0 rfl rfl rfl rfl (fun g4 => ?_)
    refine y_iload_n (q := 30) rfl rfl rfl ?_
    exact y_retI rfl (by decide) rfl rfl
def f_X7_meetsOf (v1 : Int32) (v2 : Int32) (h : dH) : Option (Int32 × dH) := if 0 ≤ v1.toInt ∧ v1.toInt < 8 then (oI (f_X7_says 0 v1 v2 h) (fun r2 g3 => if (h 4 (v1.toInt.toNat)).toInt = 1 then (some ((2 * r2), g3)) else (if (h 4 (v1.toInt.toNat)).toInt = 3 then (if 0 ≤ v1.toInt ∧ v1.toInt < 8 then (some (((2 * r2) + (g3 5 (v1.toInt.toNat))), g3)) else none) else (if (h 4 (v1.toInt.toNat)).toInt = 2 then (some ((r2 / 2), g3)) else (if (h 4 (v1.toInt.toNat)).toInt = 4 then (oP (f_X7_apart v1 v2) (fun r13 => if 2 < r13.toInt then (some (0, g3)) else (some ((r2 / 2), g3)))) else (if (h 4 (v1.toInt.toNat)).toInt = 5 then (some (3, g3)) else (some (r2, g3)))))))) else none
theorem m_X7_meetsOf {d : Nat} (hd : 44 ≤ d) (v1 : Int32) (v2 : Int32) (h : dH) : dX shM d 184 [.ref 0, .int v1, .int v2] dI (f_X7_meetsOf v1 v2 h) h := by
  obtain ⟨e, rfl⟩ : ∃ e, d = e + 1 := ⟨d - 1, by omega⟩
  have hd : 43 ≤ e := by omega
  refine dX_of (mj := mj184) (lo := [some (.ref 0), some (.int v1), some (.int v2), none, none]) rfl (Nat.le_of_ble_eq_true rfl) rfl ?_
  unfold f_X7_meetsOf
  refine y_aload_n (q := 1) rfl rfl rfl ?_
  refine y_getR (b := 4) (q := 4) rfl rfl (by decide) atM0 rfl rfl ?_
  refine y_iload_n (q := 5) rfl rfl rfl ?_
  refine y_guard (fun c1 => ?_)
  refine y_iald (n := 8) (N := 8) (X := v1.toInt) (K := v1.toInt.toNat) (q := 6) hbM rfl atM4 rfl rfl c1 rfl rfl ?_
  refine y_istore_n (lo' := [some (.ref 0), some (.int v1), some (.int v2), some (.int (h 4 (v1.toInt.toNat))), none]) (q := 7) rfl (Nat.le_of_ble_eq_true rfl) rfl rfl ?_
  refine y_aload_n (q := 8) rfl rfl rfl ?_
  refine y_iconst (x := 0) (q := 9) rfl (by decide) rfl ?_
  refine y_iload_n (q := 10) rfl rfl rfl ?_
  refine y_iload_n (q := 11) rfl rfl rfl ?_
  refine y_callI (I := .invokevirtual 367) (idx := 367) (KD := 1) (J := 192) (mj := mj182) (as := [.ref 0, .int 0, .int v1, .int v2]) (r := []) (q := 14) rfl (fun _ _ _ _ _ _ => rfl) rfl (by decide) rfl rfl rfl rfl rfl (Nat.le_of_ble_eq_true rfl) (d_recv atM0 (by decide) (by decide)) rfl (m_X7_says (Nat.le_trans (by decide) hd) 0 v1 v2 h) (fun r2 g3 => ?_)
  refine y_istore (lo' := [some (.ref 0), some (.int v1), some (.int v2), some (.int (h 4 (v1.toInt.toNat))), some (.int r2)]) (q := 16) rfl (Nat.le_of_ble_eq_true rfl) rfl rfl ?_
  refine y_iload_n (q := 17) rfl rfl rfl ?_
  refine y_iconst (x := 1) (q := 18) rfl (by decide) rfl ?_
  refine y_ne (q := 28) (q' := 21) rfl rfl (by decide) rfl rfl (fun c4 => ?_) (fun c5 => ?_)
  · skip
    refine y_iconst (x := 2) (q := 22) rfl (by decide) rfl ?_
    refine y_iload (q := 24) rfl rfl rfl ?_
    refine y_imul (q := 25) rfl rfl ?_
    refine y_goto (q := 95) rfl rfl ?_
    exact y_retI rfl (by decide) rfl rfl
  · skip
    refine y_iload_n (q := 29) rfl rfl rfl ?_
    refine y_iconst (x := 3) (q := 30) rfl (by decide) rfl ?_
    refine y_ne (q := 47) (q' := 33) rfl rfl (by decide) rfl rfl (fun c6 => ?_) (fun c7 => ?_)
    · skip
      refine y_iconst (x := 2) (q := 34) rfl (by decide) rfl ?_
      refine y_iload (q := 36) rfl rfl rfl ?_
      refine y_imul (q := 37) rfl rfl ?_
      refine y_aload_n (q := 38) rfl rfl rfl ?_
      refine y_getR (b := 5) (q := 41) rfl rfl (by decide) atM0 rfl rfl ?_
      refine y_iload_n (q := 42) rfl rfl rfl ?_
      refine y_guard (fun c8 => ?_)
      refine y_iald (n := 8) (N := 8) (X := v1.toInt) (K := v1.toInt.toNat) (q := 43) hbM rfl atM5 rfl rfl c8 rfl rfl ?_
      refine y_iadd (q := 44) rfl rfl ?_
      refine y_goto (q := 95) rfl rfl ?_
      exact y_retI rfl (by decide) rfl rfl
    · skip
      refine y_iload_n (q := 48) rfl rfl rfl ?_
      refine y_iconst (x := 2) (q := 49) rfl (by decide) rfl ?_
      refine y_ne (q := 59) (q' := 52) rfl rfl (by decide) rfl rfl (fun c9 => ?_) (fun c10 => ?_)
      · skip
        refine y_iload (q := 54) rfl rfl rfl ?_
        refine y_iconst (x := 2) (q := 55) rfl (by decide) rfl ?_
        refine y_idiv (q := 56) rfl (by decide) rfl ?_
        refine y_goto (q := 95) rfl rfl ?_
        exact y_retI rfl (by decide) rfl rfl
      · skip
        refine y_iload_n (q := 60) rfl rfl rfl ?_
        refine y_iconst (x := 4) (q := 61) rfl (by decide) rfl ?_
        refine y_ne (q := 84) (q' := 64) rfl rfl (by decide) rfl rfl (fun c11 => ?_) (fun c12 => ?_)
        · skip
          refine y_iload_n (q := 65) rfl rfl rfl ?_
          refine y_iload_n (q := 66) rfl rfl rfl ?_
          refine y_callP (I := .invokestatic 364) (idx := 364) (KD := 0) (J := 193) (mj := mj183) (as := [.int v1, .int v2]) (r := []) (q := 69) rfl (fun _ _ _ _ _ _ => rfl) rfl (by decide) rfl rfl rfl rfl rfl (Nat.le_of_ble_eq_true rfl) rfl rfl (m_X7_apart (Nat.le_trans (by decide) hd) v1 v2 g3) (fun r13 => ?_)
          refine y_iconst (x := 2) (q := 70) rfl (by decide) rfl ?_
          refine y_le (q := 77) (q' := 73) rfl rfl (by decide) rfl rfl (fun c14 => ?_) (fun c15 => ?_)
          · skip
            refine y_iconst (x := 0) (q := 74) rfl (by decide) rfl ?_
            refine y_goto (q := 95) rfl rfl ?_
            exact y_retI rfl (by decide) rfl rfl
          · skip
            refine y_iload (q := 79) rfl rfl rfl ?_
            refine y_iconst (x := 2) (q := 80) rfl (by decide) rfl ?_
            refine y_idiv (q := 81) rfl (by decide) rfl ?_
            refine y_goto (q := 95) rfl rfl ?_
            exact y_retI rfl (by decide) rfl rfl
        · skip
          refine y_iload_n (q := 85) rfl rfl rfl ?_
          refine y_iconst (x := 5) (q := 86) rfl (by decide) rfl ?_
          refine y_ne (q := 93) (q' := 89) rfl rfl (by decide) rfl rfl (fun c16 => ?_) (fun c17 => ?_)
          · skip
            refine y_iconst (x := 3) (q := 90) rfl (by decide) rfl ?_
            refine y_goto (q := 95) rfl rfl ?_
            exact y_retI rfl (by decide) rfl rfl
          · skip
            refine y_iload (q := 95) rfl rfl rfl ?_
            exact y_retI rfl (by decide) rfl rfl
def f_X7_fadesOf (v1 : Int32) (v2 : Int32) (h : dH) : Option (Int32 × dH) := if 0 ≤ v1.toInt ∧ v1.toInt < 8 then (oI (f_X7_says 1 v1 v2 h) (fun r2 g3 => if (h 4 (v1.toInt.toNat)).toInt = 1 then (some ((r2 + 1), g3)) else (if (h 4 (v1.toInt.toNat)).toInt = 3 then (some ((2 * (r2 + 1)), g3)) else (if (h 4 (v1.toInt.toNat)).toInt = 2 then (some ((r2 / 2), g3)) else (if (h 4 (v1.toInt.toNat)).toInt = 4 then (if (drem (g3 0 7) 2).toInt = 0 then (some (0, g3)) else (some ((r2 / 2), g3))) else (some (r2, g3))))))) else none
theorem m_X7_fadesOf {d : Nat} (hd : 44 ≤ d) (v1 : Int32) (v2 : Int32) (h : dH) : dX shM d 185 [.ref 0, .int v1, .int v2] dI (f_X7_fadesOf v1 v2 h) h := by
  obtain ⟨e, rfl⟩ : ∃ e, d = e + 1 := ⟨d - 1, by omega⟩
  have hd : 43 ≤ e := by omega
  refine dX_of (mj := mj185) (lo := [some (.ref 0), some (.int v1), some (.int v2), none, none]) rfl (Nat.le_of_ble_eq_true rfl) rfl ?_
  unfold f_X7_fadesOf
  refine y_aload_n (q := 1) rfl rfl rfl ?_
  refine y_getR (b := 4) (q := 4) rfl rfl (by decide) atM0 rfl rfl ?_
  refine y_iload_n (q := 5) rfl rfl rfl ?_
  refine y_guard (fun c1 => ?_)
  refine y_iald (n := 8) (N := 8) (X := v1.toInt) (K := v1.toInt.toNat) (q := 6) hbM rfl atM4 rfl rfl c1 rfl rfl ?_
  refine y_istore_n (lo' := [some (.ref 0), some (.int v1), some (.int v2), some (.int (h 4 (v1.toInt.toNat))), none]) (q := 7) rfl (Nat.le_of_ble_eq_true rfl) rfl rfl ?_
  refine y_aload_n (q := 8) rfl rfl rfl ?_
  refine y_iconst (x := 1) (q := 9) rfl (by decide) rfl ?_
  refine y_iload_n (q := 10) rfl rfl rfl ?_
  refine y_iload_n (q := 11) rfl rfl rfl ?_
  refine y_callI (I := .invokevirtual 367) (idx := 367) (KD := 1) (J := 192) (mj := mj182) (as := [.ref 0, .int 1, .int v1, .int v2]) (r := []) (q := 14) rfl (fun _ _ _ _ _ _ => rfl) rfl (by decide) rfl rfl rfl rfl rfl (Nat.le_of_ble_eq_true rfl) (d_recv atM0 (by decide) (by decide)) rfl (m_X7_says (Nat.le_trans (by decide) hd) 1 v1 v2 h) (fun r2 g3 => ?_)
  refine y_istore (lo' := [some (.ref 0), some (.int v1), some (.int v2), some (.int (h 4 (v1.toInt.toNat))), some (.int r2)]) (q := 16) rfl (Nat.le_of_ble_eq_true rfl) rfl rfl ?_
  refine y_iload_n (q := 17) rfl rfl rfl ?_
  refine y_iconst (x := 1) (q := 18) rfl (by decide) rfl ?_
  refine y_ne (q := 28) (q' := 21) rfl rfl (by decide) rfl rfl (fun c4 => ?_) (fun c5 => ?_)
  · skip
    refine y_iload (q := 23) rfl rfl rfl ?_
    refine y_iconst (x := 1) (q := 24) rfl (by decide) rfl ?_
    refine y_iadd (q := 25) rfl rfl ?_
    refine y_goto (q := 81) rfl rfl ?_
    exact y_retI rfl (by decide) rfl rfl
  · skip
    refine y_iload_n (q := 29) rfl rfl rfl ?_
    refine y_iconst (x := 3) (q := 30) rfl (by decide) rfl ?_
    refine y_ne (q := 42) (q' := 33) rfl rfl (by decide) rfl rfl (fun c6 => ?_) (fun c7 => ?_)
    · skip
      refine y_iconst (x := 2) (q := 34) rfl (by decide) rfl ?_
      refine y_iload (q := 36) rfl rfl rfl ?_
      refine y_iconst (x := 1) (q := 37) rfl (by decide) rfl ?_
      refine y_iadd (q := 38) rfl rfl ?_
      refine y_imul (q := 39) rfl rfl ?_
      refine y_goto (q := 81) rfl rfl ?_
      exact y_retI rfl (by decide) rfl rfl
    · skip
      refine y_iload_n (q := 43) rfl rfl rfl ?_
      refine y_iconst (x := 2) (q := 44) rfl (by decide) rfl ?_
      refine y_ne (q := 54) (q' := 47) rfl rfl (by decide) rfl rfl (fun c8 => ?_) (fun c9 => ?_)
      · skip
        refine y_iload (q := 49) rfl rfl rfl ?_
        refine y_iconst (x := 2) (q := 50) rfl (by decide) rfl ?_
        refine y_idiv (q := 51) rfl (by decide) rfl ?_
        refine y_goto (q := 81) rfl rfl ?_
        exact y_retI rfl (by decide) rfl rfl
      · skip
        refine y_iload_n (q := 55) rfl rfl rfl ?_
        refine y_iconst (x := 4) (q := 56) rfl (by decide) rfl ?_
        refine y_ne (q := 79) (q' := 59) rfl rfl (by decide) rfl rfl (fun c10 => ?_) (fun c11 => ?_)
        · skip
          refine y_aload_n (q := 60) rfl rfl rfl ?_
          refine y_getI (q := 63) rfl rfl (by decide) atM0 rfl rfl ?_
          refine y_iconst (x := 2) (q := 64) rfl (by decide) rfl ?_
          refine y_irem (q := 65) rfl (by decide) rfl ?_
          refine y_ne0 (q := 72) (q' := 68) rfl rfl rfl rfl (fun c12 => ?_) (fun c13 => ?_)
          · skip
            refine y_iconst (x := 0) (q := 69) rfl (by decide) rfl ?_
            refine y_goto (q := 81) rfl rfl ?_
            exact y_retI rfl (by decide) rfl rfl
          · skip
            refine y_iload (q := 74) rfl rfl rfl ?_
            refine y_iconst (x := 2) (q := 75) rfl (by decide) rfl ?_
            refine y_idiv (q := 76) rfl (by decide) rfl ?_
            refine y_goto (q := 81) rfl rfl ?_
            exact y_retI rfl (by decide) rfl rfl
        · skip
          refine y_iload (q := 81) rfl rfl rfl ?_
          exact y_retI rfl (by decide) rfl rfl
end
end

section
/-! X7_asks, X7_feasts, X7_fades, X7_friends, X7_feast, X7_year, X7_waysAll, X7_companies, X7_largest, X7_longest, X7_strengthAll, X7_quietest, X7_tellsOf, X7_street, X7_way, X7_laysAside, X7_laysBack, X7_lives, X7_run, X7_friendsBehind, X7_takes (by program) -/
noncomputable section
def f_X7_asks (v1 : Int32) (v2 : Int32) (v3 : Int32) (h : dH) : Option (Int32 × dH) := oP (f_X7_areTwo v1 v2 h) (fun r1 => if r1.toInt = 0 then (some ((-2), h)) else (oP (f_X7_in (v3.toInt64) 0 1) (fun r4 => if r4.toInt = 0 then (some ((-2), h)) else (if v3.toInt = 0 then (oI (f_X7_meetsOf v1 v2 h) (fun r9 g10 => some (r9, g10))) else (oI (f_X7_fadesOf v1 v2 h) (fun r11 g12 => some (r11, g12)))))))
theorem m_X7_asks {d : Nat} (hd : 45 ≤ d) (v1 : Int32) (v2 : Int32) (v3 : Int32) (h : dH) : dX shM d 187 [.ref 0, .int v1, .int v2, .int v3] dI (f_X7_asks v1 v2 v3 h) h := by
  obtain ⟨e, rfl⟩ : ∃ e, d = e + 1 := ⟨d - 1, by omega⟩
  have hd : 44 ≤ e := by omega
  refine dX_of (mj := mj187) (lo := [some (.ref 0), some (.int v1), some (.int v2), some (.int v3)]) rfl (Nat.le_of_ble_eq_true rfl) rfl ?_
  unfold f_X7_asks
  refine y_aload_n (q := 1) rfl rfl rfl ?_
  refine y_iload_n (q := 2) rfl rfl rfl ?_
  refine y_iload_n (q := 3) rfl rfl rfl ?_
  refine y_callP (I := .invokevirtual 136) (idx := 136) (KD := 1) (J := 139) (mj := mj129) (as := [.ref 0, .int v1, .int v2]) (r := []) (q := 6) rfl (fun _ _ _ _ _ _ => rfl) rfl (by decide) rfl rfl rfl rfl rfl (Nat.le_of_ble_eq_true rfl) (d_recv atM0 (by decide) (by decide)) rfl (m_X7_areTwo (Nat.le_trans (by decide) hd) v1 v2 h) (fun r1 => ?_)
  refine y_eq0 (q := 19) (q' := 9) rfl rfl rfl rfl (fun c2 => ?_) (fun c3 => ?_)
  · skip
    refine y_bipush (x := (-2)) (q := 21) rfl (by decide) rfl ?_
    exact y_retI rfl (by decide) rfl rfl
  · skip
    refine y_iload_n (q := 10) rfl rfl rfl ?_
    refine y_i2l (q := 11) rfl rfl ?_
    refine y_lconst (u := 0) (q := 12) rfl (by decide) rfl ?_
    refine y_lconst (u := 1) (q := 13) rfl (by decide) rfl ?_
    refine y_callP (I := .invokestatic 91) (idx := 91) (KD := 0) (J := 128) (mj := mj118) (as := [.long v3.toInt64, .long 0, .long 1]) (r := []) (q := 16) rfl (fun _ _ _ _ _ _ => rfl) rfl (by decide) rfl rfl rfl rfl rfl (Nat.le_of_ble_eq_true rfl) rfl rfl (m_X7_in (Nat.le_trans (by decide) hd) (v3.toInt64) 0 1 h) (fun r4 => ?_)
    refine y_ne0 (q := 22) (q' := 19) rfl rfl rfl rfl (fun c5 => ?_) (fun c6 => ?_)
    · skip
      refine y_bipush (x := (-2)) (q := 21) rfl (by decide) rfl ?_
      exact y_retI rfl (by decide) rfl rfl
    · skip
      refine y_iload_n (q := 23) rfl rfl rfl ?_
      refine y_ne0 (q := 35) (q' := 26) rfl rfl rfl rfl (fun c7 => ?_) (fun c8 => ?_)
      · skip
        refine y_aload_n (q := 27) rfl rfl rfl ?_
        refine y_iload_n (q := 28) rfl rfl rfl ?_
        refine y_iload_n (q := 29) rfl rfl rfl ?_
        refine y_callI (I := .invokevirtual 370) (idx := 370) (KD := 1) (J := 194) (mj := mj184) (as := [.ref 0, .int v1, .int v2]) (r := []) (q := 32) rfl (fun _ _ _ _ _ _ => rfl) rfl (by decide) rfl rfl rfl rfl rfl (Nat.le_of_ble_eq_true rfl) (d_recv atM0 (by decide) (by decide)) rfl (m_X7_meetsOf (Nat.le_trans (by decide) hd) v1 v2 h) (fun r9 g10 => ?_)
        refine y_goto (q := 41) rfl rfl ?_
        exact y_retI rfl (by decide) rfl rfl
      · skip
        refine y_aload_n (q := 36) rfl rfl rfl ?_
        refine y_iload_n (q := 37) rfl rfl rfl ?_
        refine y_iload_n (q := 38) rfl rfl rfl ?_
        refine y_callI (I := .invokevirtual 373) (idx := 373) (KD := 1) (J := 195) (mj := mj185) (as := [.ref 0, .int v1, .int v2]) (r := []) (q := 41) rfl (fun _ _ _ _ _ _ => rfl) rfl (by decide) rfl rfl rfl rfl rfl (Nat.le_of_ble_eq_true rfl) (d_recv atM0 (by decide) (by decide)) rfl (m_X7_fadesOf (Nat.le_trans (by decide) hd) v1 v2 h) (fun r11 g12 => ?_)
        exact y_retI rfl (by decide) rfl rfl
def l_X7_feasts_14 (v1 : Int32) (k : dH → Option (dH)) : Nat → Int32 → dH → Option (dH)
  | 0, _, _ => none
  | n + 1, v2, h => if v2.toInt < (h 0 13).toInt then (if 0 ≤ v1.toInt ∧ v1.toInt < 8 then (if (h 6 (v1.toInt.toNat)).toInt = (-1) then (l_X7_feasts_14 v1 k n (v2 + 1) h) else (if 0 ≤ v1.toInt ∧ v1.toInt < 8 then (if 0 ≤ v2.toInt ∧ v2.toInt < 8 then (if (h 6 (v1.toInt.toNat)).toInt = (h 6 (v2.toInt.toNat)).toInt then (oI (f_X7_meetsOf v1 v2 h) (fun r12 g13 => oI (f_X7_meetsOf v2 v1 g13) (fun r14 g15 => oP (f_X7_strengthOf v1 v2 g15) (fun r16 => oV (f_X7_binds v1 v2 (r16 + (r12 + r14)) g15) (fun g17 => l_X7_feasts_14 v1 k n (v2 + 1) g17))))) else (l_X7_feasts_14 v1 k n (v2 + 1) h)) else none) else none)) else none) else (k  h)
theorem lz_X7_feasts_14 {d : Nat} (hd : 44 ≤ d) (v1 : Int32) (k : dH → Option (dH)) (hk : ∀ (w2 : Int32) (z3 : Option Value) (h : dH), dY shM d mj188 dV (k h) 81 [some (.ref 0), some (.int v1), some (.int w2), z3] [] h) : ∀ (n : Nat) (v2 : Int32) (h : dH) (z3 : Option Value), dY shM d mj188 dV (l_X7_feasts_14 v1 k n v2 h) 14 [some (.ref 0), some (.int v1), some (.int v2), z3] [] h
  | 0, _, _, _ => dY_none
  | n + 1, v2, h, z3 => by
    rw [l_X7_feasts_14]
    refine y_iload_n (q := 15) rfl rfl rfl ?_
    refine y_aload_n (q := 16) rfl rfl rfl ?_
    refine y_getI (q := 19) rfl rfl (by decide) atM0 rfl rfl ?_
    refine y_ge (q := 81) (q' := 22) rfl rfl rfl rfl rfl (fun c3 => ?_) (fun c4 => ?_)
    · skip
      refine y_aload_n (q := 23) rfl rfl rfl ?_
      refine y_getR (b := 6) (q := 26) rfl rfl (by decide) atM0 rfl rfl ?_
      refine y_iload_n (q := 27) rfl rfl rfl ?_
      refine y_guard (fun c5 => ?_)
      refine y_iald (n := 8) (N := 8) (X := v1.toInt) (K := v1.toInt.toNat) (q := 28) hbM rfl atM6 rfl rfl c5 rfl rfl ?_
      refine y_iconst (x := (-1)) (q := 29) rfl (by decide) rfl ?_
      refine y_eq (q := 75) (q' := 32) rfl rfl (by decide) rfl rfl (fun c6 => ?_) (fun c7 => ?_)
      · skip
        refine y_iinc (z := (v2 + 1)) (lo' := [some (.ref 0), some (.int v1), some (.int (v2 + 1)), z3]) (q := 78) rfl rfl (Nat.le_of_ble_eq_true rfl) (by rw [oi_1]) rfl rfl ?_
        refine y_goto (q := 14) rfl rfl ?_
        exact lz_X7_feasts_14 hd v1 k hk n (v2 + 1) h (z3)
      · skip
        refine y_aload_n (q := 33) rfl rfl rfl ?_
        refine y_getR (b := 6) (q := 36) rfl rfl (by decide) atM0 rfl rfl ?_
        refine y_iload_n (q := 37) rfl rfl rfl ?_
        refine y_guard (fun c8 => ?_)
        refine y_iald (n := 8) (N := 8) (X := v1.toInt) (K := v1.toInt.toNat) (q := 38) hbM rfl atM6 rfl rfl c8 rfl rfl ?_
        refine y_aload_n (q := 39) rfl rfl rfl ?_
        refine y_getR (b := 6) (q := 42) rfl rfl (by decide) atM0 rfl rfl ?_
        refine y_iload_n (q := 43) rfl rfl rfl ?_
        refine y_guard (fun c9 => ?_)
        refine y_iald (n := 8) (N := 8) (X := v2.toInt) (K := v2.toInt.toNat) (q := 44) hbM rfl atM6 rfl rfl c9 rfl rfl ?_
        refine y_ne (q := 75) (q' := 47) rfl rfl rfl rfl rfl (fun c10 => ?_) (fun c11 => ?_)
        · skip
          refine y_aload_n (q := 48) rfl rfl rfl ?_
          refine y_iload_n (q := 49) rfl rfl rfl ?_
          refine y_iload_n (q := 50) rfl rfl rfl ?_
          refine y_callI (I := .invokevirtual 370) (idx := 370) (KD := 1) (J := 194) (mj := mj184) (as := [.ref 0, .int v1, .int v2]) (r := []) (q := 53) rfl (fun _ _ _ _ _ _ => rfl) rfl (by decide) rfl rfl rfl rfl rfl (Nat.le_of_ble_eq_true rfl) (d_recv atM0 (by decide) (by decide)) rfl (m_X7_meetsOf (Nat.le_trans (by decide) hd) v1 v2 h) (fun r12 g13 => ?_)
          refine y_aload_n (q := 54) rfl rfl rfl ?_
          refine y_iload_n (q := 55) rfl rfl rfl ?_
          refine y_iload_n (q := 56) rfl rfl rfl ?_
          refine y_callI (I := .invokevirtual 370) (idx := 370) (KD := 1) (J := 194) (mj := mj184) (as := [.ref 0, .int v2, .int v1]) (r := [.int r12]) (q := 59) rfl (fun _ _ _ _ _ _ => rfl) rfl (by decide) rfl rfl rfl rfl rfl (Nat.le_of_ble_eq_true rfl) (d_recv atM0 (by decide) (by decide)) rfl (m_X7_meetsOf (Nat.le_trans (by decide) hd) v2 v1 g13) (fun r14 g15 => ?_)
          refine y_iadd (q := 60) rfl rfl ?_
          refine y_istore_n (lo' := [some (.ref 0), some (.int v1), some (.int v2), some (.int (r12 + r14))]) (q := 61) rfl (Nat.le_of_ble_eq_true rfl) rfl rfl ?_
          refine y_aload_n (q := 62) rfl rfl rfl ?_
          refine y_iload_n (q := 63) rfl rfl rfl ?_
          refine y_iload_n (q := 64) rfl rfl rfl ?_
          refine y_aload_n (q := 65) rfl rfl rfl ?_
          refine y_iload_n (q := 66) rfl rfl rfl ?_
          refine y_iload_n (q := 67) rfl rfl rfl ?_
          refine y_callP (I := .invokevirtual 139) (idx := 139) (KD := 1) (J := 136) (mj := mj126) (as := [.ref 0, .int v1, .int v2]) (r := [.int v2, .int v1, .ref 0]) (q := 70) rfl (fun _ _ _ _ _ _ => rfl) rfl (by decide) rfl rfl rfl rfl rfl (Nat.le_of_ble_eq_true rfl) (d_recv atM0 (by decide) (by decide)) rfl (m_X7_strengthOf (Nat.le_trans (by decide) hd) v1 v2 g15) (fun r16 => ?_)
          refine y_iload_n (q := 71) rfl rfl rfl ?_
          refine y_iadd (q := 72) rfl rfl ?_
          refine y_callV (I := .invokevirtual 133) (idx := 133) (KD := 1) (J := 137) (mj := mj127) (as := [.ref 0, .int v1, .int v2, .int (r16 + (r12 + r14))]) (r := []) (q := 75) rfl (fun _ _ _ _ _ _ => rfl) rfl (by decide) rfl rfl rfl rfl rfl (Nat.le_of_ble_eq_true rfl) (d_recv atM0 (by decide) (by decide)) rfl (m_X7_binds (Nat.le_trans (by decide) hd) v1 v2 (r16 + (r12 + r14)) g15) (fun g17 => ?_)
          refine y_iinc (z := (v2 + 1)) (lo' := [some (.ref 0), some (.int v1), some (.int (v2 + 1)), some (.int (r12 + r14))]) (q := 78) rfl rfl (Nat.le_of_ble_eq_true rfl) (by rw [oi_1]) rfl rfl ?_
          refine y_goto (q := 14) rfl rfl ?_
          exact lz_X7_feasts_14 hd v1 k hk n (v2 + 1) g17 (some (.int (r12 + r14)))
        · skip
          refine y_iinc (z := (v2 + 1)) (lo' := [some (.ref 0), some (.int v1), some (.int (v2 + 1)), z3]) (q := 78) rfl rfl (Nat.le_of_ble_eq_true rfl) (by rw [oi_1]) rfl rfl ?_
          refine y_goto (q := 14) rfl rfl ?_
          exact lz_X7_feasts_14 hd v1 k hk n (v2 + 1) h (z3)
    · skip
      exact hk  v2 (z3) h
def l_X7_feasts_2  (k : dH → Option (dH)) : Nat → Int32 → dH → Option (dH)
  | 0, _, _ => none
  | n + 1, v1, h => if v1.toInt < (h 0 13).toInt then (l_X7_feasts_14 v1  (fun g20 => l_X7_feasts_2  k n (v1 + 1) g20) fuel0 (v1 + 1) h) else (k  h)
theorem lz_X7_feasts_2 {d : Nat} (hd : 44 ≤ d)  (k : dH → Option (dH)) (hk : ∀ (w1 : Int32) (z2 : Option Value) (z3 : Option Value) (h : dH), dY shM d mj188 dV (k h) 87 [some (.ref 0), some (.int w1), z2, z3] [] h) : ∀ (n : Nat) (v1 : Int32) (h : dH) (z2 : Option Value) (z3 : Option Value), dY shM d mj188 dV (l_X7_feasts_2  k n v1 h) 2 [some (.ref 0), some (.int v1), z2, z3] [] h
  | 0, _, _, _, _ => dY_none
  | n + 1, v1, h, z2, z3 => by
    rw [l_X7_feasts_2]
    refine y_iload_n (q := 3) rfl rfl rfl ?_
    refine y_aload_n (q := 4) rfl rfl rfl ?_
    refine y_getI (q := 7) rfl rfl (by decide) atM0 rfl rfl ?_
    refine y_ge (q := 87) (q' := 10) rfl rfl rfl rfl rfl (fun c1 => ?_) (fun c2 => ?_)
    · skip
      refine y_iload_n (q := 11) rfl rfl rfl ?_
      refine y_iconst (x := 1) (q := 12) rfl (by decide) rfl ?_
      refine y_iadd (q := 13) rfl rfl ?_
      refine y_istore_n (lo' := [some (.ref 0), some (.int v1), some (.int (v1 + 1)), z3]) (q := 14) rfl (Nat.le_of_ble_eq_true rfl) rfl rfl ?_
      refine lz_X7_feasts_14 hd v1  _ (fun z18 z19 g20 => ?_) fuel0 (v1 + 1) h (z3)
      refine y_iinc (z := (v1 + 1)) (lo' := [some (.ref 0), some (.int (v1 + 1)), some (.int z18), z19]) (q := 84) rfl rfl (Nat.le_of_ble_eq_true rfl) (by rw [oi_1]) rfl rfl ?_
      refine y_goto (q := 2) rfl rfl ?_
      exact lz_X7_feasts_2 hd  k hk n (v1 + 1) g20 (some (.int z18)) (z19)
    · skip
      exact hk  v1 (z2) (z3) h
def f_X7_feasts  (h : dH) : Option (dH) := l_X7_feasts_2   (fun g24 => some g24) fuel0 0 h
theorem m_X7_feasts {d : Nat} (hd : 45 ≤ d)  (h : dH) : dX shM d 188 [.ref 0] dV (f_X7_feasts  h) h := by
  obtain ⟨e, rfl⟩ : ∃ e, d = e + 1 := ⟨d - 1, by omega⟩
  have hd : 44 ≤ e := by omega
  refine dX_of (mj := mj188) (lo := [some (.ref 0), none, none, none]) rfl (Nat.le_of_ble_eq_true rfl) rfl ?_
  unfold f_X7_feasts
  refine y_iconst (x := 0) (q := 1) rfl (by decide) rfl ?_
  refine y_istore_n (lo' := [some (.ref 0), some (.int 0), none, none]) (q := 2) rfl (Nat.le_of_ble_eq_true rfl) rfl rfl ?_
  refine lz_X7_feasts_2 hd   _ (fun z21 z22 z23 g24 => ?_) fuel0 0 h (none) (none)
  exact y_retV rfl rfl rfl
def l_X7_fades_14 (v1 : Int32) (k : dH → Option (dH)) : Nat → Int32 → dH → Option (dH)
  | 0, _, _ => none
  | n + 1, v2, h => if v2.toInt < (h 0 13).toInt then (oI (f_X7_fadesOf v1 v2 h) (fun r5 g6 => oI (f_X7_fadesOf v2 v1 g6) (fun r7 g8 => oP (f_X7_strengthOf v1 v2 g8) (fun r9 => oV (f_X7_binds v1 v2 (r9 - (r5 + r7)) g8) (fun g10 => l_X7_fades_14 v1 k n (v2 + 1) g10))))) else (k  h)
theorem lz_X7_fades_14 {d : Nat} (hd : 44 ≤ d) (v1 : Int32) (k : dH → Option (dH)) (hk : ∀ (w2 : Int32) (z3 : Option Value) (h : dH), dY shM d mj189 dV (k h) 56 [some (.ref 0), some (.int v1), some (.int w2), z3] [] h) : ∀ (n : Nat) (v2 : Int32) (h : dH) (z3 : Option Value), dY shM d mj189 dV (l_X7_fades_14 v1 k n v2 h) 14 [some (.ref 0), some (.int v1), some (.int v2), z3] [] h
  | 0, _, _, _ => dY_none
  | n + 1, v2, h, z3 => by
    rw [l_X7_fades_14]
    refine y_iload_n (q := 15) rfl rfl rfl ?_
    refine y_aload_n (q := 16) rfl rfl rfl ?_
    refine y_getI (q := 19) rfl rfl (by decide) atM0 rfl rfl ?_
    refine y_ge (q := 56) (q' := 22) rfl rfl rfl rfl rfl (fun c3 => ?_) (fun c4 => ?_)
    · skip
      refine y_aload_n (q := 23) rfl rfl rfl ?_
      refine y_iload_n (q := 24) rfl rfl rfl ?_
      refine y_iload_n (q := 25) rfl rfl rfl ?_
      refine y_callI (I := .invokevirtual 373) (idx := 373) (KD := 1) (J := 195) (mj := mj185) (as := [.ref 0, .int v1, .int v2]) (r := []) (q := 28) rfl (fun _ _ _ _ _ _ => rfl) rfl (by decide) rfl rfl rfl rfl rfl (Nat.le_of_ble_eq_true rfl) (d_recv atM0 (by decide) (by decide)) rfl (m_X7_fadesOf (Nat.le_trans (by decide) hd) v1 v2 h) (fun r5 g6 => ?_)
      refine y_aload_n (q := 29) rfl rfl rfl ?_
      refine y_iload_n (q := 30) rfl rfl rfl ?_
      refine y_iload_n (q := 31) rfl rfl rfl ?_
      refine y_callI (I := .invokevirtual 373) (idx := 373) (KD := 1) (J := 195) (mj := mj185) (as := [.ref 0, .int v2, .int v1]) (r := [.int r5]) (q := 34) rfl (fun _ _ _ _ _ _ => rfl) rfl (by decide) rfl rfl rfl rfl rfl (Nat.le_of_ble_eq_true rfl) (d_recv atM0 (by decide) (by decide)) rfl (m_X7_fadesOf (Nat.le_trans (by decide) hd) v2 v1 g6) (fun r7 g8 => ?_)
      refine y_iadd (q := 35) rfl rfl ?_
      refine y_istore_n (lo' := [some (.ref 0), some (.int v1), some (.int v2), some (.int (r5 + r7))]) (q := 36) rfl (Nat.le_of_ble_eq_true rfl) rfl rfl ?_
      refine y_aload_n (q := 37) rfl rfl rfl ?_
      refine y_iload_n (q := 38) rfl rfl rfl ?_
      refine y_iload_n (q := 39) rfl rfl rfl ?_
      refine y_aload_n (q := 40) rfl rfl rfl ?_
      refine y_iload_n (q := 41) rfl rfl rfl ?_
      refine y_iload_n (q := 42) rfl rfl rfl ?_
      refine y_callP (I := .invokevirtual 139) (idx := 139) (KD := 1) (J := 136) (mj := mj126) (as := [.ref 0, .int v1, .int v2]) (r := [.int v2, .int v1, .ref 0]) (q := 45) rfl (fun _ _ _ _ _ _ => rfl) rfl (by decide) rfl rfl rfl rfl rfl (Nat.le_of_ble_eq_true rfl) (d_recv atM0 (by decide) (by decide)) rfl (m_X7_strengthOf (Nat.le_trans (by decide) hd) v1 v2 g8) (fun r9 => ?_)
      refine y_iload_n (q := 46) rfl rfl rfl ?_
      refine y_isub (q := 47) rfl rfl ?_
      refine y_callV (I := .invokevirtual 133) (idx := 133) (KD := 1) (J := 137) (mj := mj127) (as := [.ref 0, .int v1, .int v2, .int (r9 - (r5 + r7))]) (r := []) (q := 50) rfl (fun _ _ _ _ _ _ => rfl) rfl (by decide) rfl rfl rfl rfl rfl (Nat.le_of_ble_eq_true rfl) (d_recv atM0 (by decide) (by decide)) rfl (m_X7_binds (Nat.le_trans (by decide) hd) v1 v2 (r9 - (r5 + r7)) g8) (fun g10 => ?_)
      refine y_iinc (z := (v2 + 1)) (lo' := [some (.ref 0), some (.int v1), some (.int (v2 + 1)), some (.int (r5 + r7))]) (q := 53) rfl rfl (Nat.le_of_ble_eq_true rfl) (by rw [oi_1]) rfl rfl ?_
      refine y_goto (q := 14) rfl rfl ?_
      exact lz_X7_fades_14 hd v1 k hk n (v2 + 1) g10 (some (.int (r5 + r7)))
    · skip
      exact hk  v2 (z3) h
def l_X7_fades_2  (k : dH → Option (dH)) : Nat → Int32 → dH → Option (dH)
  | 0, _, _ => none
  | n + 1, v1, h => if v1.toInt < (h 0 13).toInt then (l_X7_fades_14 v1  (fun g13 => l_X7_fades_2  k n (v1 + 1) g13) fuel0 (v1 + 1) h) else (k  h)
theorem lz_X7_fades_2 {d : Nat} (hd : 44 ≤ d)  (k : dH → Option (dH)) (hk : ∀ (w1 : Int32) (z2 : Option Value) (z3 : Option Value) (h : dH), dY shM d mj189 dV (k h) 62 [some (.ref 0), some (.int w1), z2, z3] [] h) : ∀ (n : Nat) (v1 : Int32) (h : dH) (z2 : Option Value) (z3 : Option Value), dY shM d mj189 dV (l_X7_fades_2  k n v1 h) 2 [some (.ref 0), some (.int v1), z2, z3] [] h
  | 0, _, _, _, _ => dY_none
  | n + 1, v1, h, z2, z3 => by
    rw [l_X7_fades_2]
    refine y_iload_n (q := 3) rfl rfl rfl ?_
    refine y_aload_n (q := 4) rfl rfl rfl ?_
    refine y_getI (q := 7) rfl rfl (by decide) atM0 rfl rfl ?_
    refine y_ge (q := 62) (q' := 10) rfl rfl rfl rfl rfl (fun c1 => ?_) (fun c2 => ?_)
    · skip
      refine y_iload_n (q := 11) rfl rfl rfl ?_
      refine y_iconst (x := 1) (q := 12) rfl (by decide) rfl ?_
      refine y_iadd (q := 13) rfl rfl ?_
      refine y_istore_n (lo' := [some (.ref 0), some (.int v1), some (.int (v1 + 1)), z3]) (q := 14) rfl (Nat.le_of_ble_eq_true rfl) rfl rfl ?_
      refine lz_X7_fades_14 hd v1  _ (fun z11 z12 g13 => ?_) fuel0 (v1 + 1) h (z3)
      refine y_iinc (z := (v1 + 1)) (lo' := [some (.ref 0), some (.int (v1 + 1)), some (.int z11), z12]) (q := 59) rfl rfl (Nat.le_of_ble_eq_true rfl) (by rw [oi_1]) rfl rfl ?_
      refine y_goto (q := 2) rfl rfl ?_
      exact lz_X7_fades_2 hd  k hk n (v1 + 1) g13 (some (.int z11)) (z12)
    · skip
      exact hk  v1 (z2) (z3) h
def f_X7_fades  (h : dH) : Option (dH) := l_X7_fades_2   (fun g17 => oH (dU g17 0 7 ((g17 0 7) + 1)) (fun g18 => some g18)) fuel0 0 h
theorem m_X7_fades {d : Nat} (hd : 45 ≤ d)  (h : dH) : dX shM d 189 [.ref 0] dV (f_X7_fades  h) h := by
  obtain ⟨e, rfl⟩ : ∃ e, d = e + 1 := ⟨d - 1, by omega⟩
  have hd : 44 ≤ e := by omega
  refine dX_of (mj := mj189) (lo := [some (.ref 0), none, none, none]) rfl (Nat.le_of_ble_eq_true rfl) rfl ?_
  unfold f_X7_fades
  refine y_iconst (x := 0) (q := 1) rfl (by decide) rfl ?_
  refine y_istore_n (lo' := [some (.ref 0), some (.int 0), none, none]) (q := 2) rfl (Nat.le_of_ble_eq_true rfl) rfl rfl ?_
  refine lz_X7_fades_2 hd   _ (fun z14 z15 z16 g17 => ?_) fuel0 0 h (none) (none)
  refine y_aload_n (q := 63) rfl rfl rfl ?_
  refine y_dup (q := 64) rfl rfl ?_
  refine y_getI (q := 67) rfl rfl (by decide) atM0 rfl rfl ?_
  refine y_iconst (x := 1) (q := 68) rfl (by decide) rfl ?_
  refine y_iadd (q := 69) rfl rfl ?_
  refine y_putI (q := 72) rfl rfl (by decide) atM0 rfl rfl rfl rfl (fun g18 => ?_)
  exact y_retV rfl rfl rfl
def l_X7_friends_16 (v2 : Int32) (h : dH) (k : Int32 → Option (Int32)) : Nat → Int32 → Int32 → Option (Int32)
  | 0, _, _ => none
  | n + 1, v1, v3 => if v3.toInt < (h 0 13).toInt then (oP (f_X7_knows v2 v3 h) (fun r5 => if r5.toInt = 0 then (l_X7_friends_16 v2 h k n (v1 + 0) (v3 + 1) ) else (l_X7_friends_16 v2 h k n (v1 + 1) (v3 + 1) ))) else (k v1 )
theorem lz_X7_friends_16 {d : Nat} (hd : 2 ≤ d) (v2 : Int32) (h : dH) (k : Int32 → Option (Int32)) (hk : ∀ (v1 : Int32) (w3 : Int32), dY shM d mj193 (dP h) (k v1) 47 [some (.ref 0), some (.int v1), some (.int v2), some (.int w3)] [] h) : ∀ (n : Nat) (v1 : Int32) (v3 : Int32), dY shM d mj193 (dP h) (l_X7_friends_16 v2 h k n v1 v3) 16 [some (.ref 0), some (.int v1), some (.int v2), some (.int v3)] [] h
  | 0, _, _ => dY_none
  | n + 1, v1, v3 => by
    rw [l_X7_friends_16]
    refine y_iload_n (q := 17) rfl rfl rfl ?_
    refine y_aload_n (q := 18) rfl rfl rfl ?_
    refine y_getI (q := 21) rfl rfl (by decide) atM0 rfl rfl ?_
    refine y_ge (q := 47) (q' := 24) rfl rfl rfl rfl rfl (fun c3 => ?_) (fun c4 => ?_)
    · skip
      refine y_iload_n (q := 25) rfl rfl rfl ?_
      refine y_aload_n (q := 26) rfl rfl rfl ?_
      refine y_iload_n (q := 27) rfl rfl rfl ?_
      refine y_iload_n (q := 28) rfl rfl rfl ?_
      refine y_callP (I := .invokevirtual 155) (idx := 155) (KD := 1) (J := 202) (mj := mj192) (as := [.ref 0, .int v2, .int v3]) (r := [.int v1]) (q := 31) rfl (fun _ _ _ _ _ _ => rfl) rfl (by decide) rfl rfl rfl rfl rfl (Nat.le_of_ble_eq_true rfl) (d_recv atM0 (by decide) (by decide)) rfl (m_X7_knows (Nat.le_trans (by decide) hd) v2 v3 h) (fun r5 => ?_)
      refine y_eq0 (q := 38) (q' := 34) rfl rfl rfl rfl (fun c6 => ?_) (fun c7 => ?_)
      · skip
        refine y_iconst (x := 0) (q := 39) rfl (by decide) rfl ?_
        refine y_iadd (q := 40) rfl rfl ?_
        refine y_istore_n (lo' := [some (.ref 0), some (.int (v1 + 0)), some (.int v2), some (.int v3)]) (q := 41) rfl (Nat.le_of_ble_eq_true rfl) rfl rfl ?_
        refine y_iinc (z := (v3 + 1)) (lo' := [some (.ref 0), some (.int (v1 + 0)), some (.int v2), some (.int (v3 + 1))]) (q := 44) rfl rfl (Nat.le_of_ble_eq_true rfl) (by rw [oi_1]) rfl rfl ?_
        refine y_goto (q := 16) rfl rfl ?_
        exact lz_X7_friends_16 hd v2 h k hk n (v1 + 0) (v3 + 1)  
      · skip
        refine y_iconst (x := 1) (q := 35) rfl (by decide) rfl ?_
        refine y_goto (q := 39) rfl rfl ?_
        refine y_iadd (q := 40) rfl rfl ?_
        refine y_istore_n (lo' := [some (.ref 0), some (.int (v1 + 1)), some (.int v2), some (.int v3)]) (q := 41) rfl (Nat.le_of_ble_eq_true rfl) rfl rfl ?_
        refine y_iinc (z := (v3 + 1)) (lo' := [some (.ref 0), some (.int (v1 + 1)), some (.int v2), some (.int (v3 + 1))]) (q := 44) rfl rfl (Nat.le_of_ble_eq_true rfl) (by rw [oi_1]) rfl rfl ?_
        refine y_goto (q := 16) rfl rfl ?_
        exact lz_X7_friends_16 hd v2 h k hk n (v1 + 1) (v3 + 1)  
    · skip
      exact hk v1 v3 
def l_X7_friends_4  (h : dH) (k : Int32 → Option (Int32)) : Nat → Int32 → Int32 → Option (Int32)
  | 0, _, _ => none
  | n + 1, v1, v2 => if v2.toInt < (h 0 13).toInt then (l_X7_friends_16 v2 h (fun v1_8 => l_X7_friends_4  h k n v1_8 (v2 + 1) ) fuel0 v1 (v2 + 1) ) else (k v1 )
theorem lz_X7_friends_4 {d : Nat} (hd : 2 ≤ d)  (h : dH) (k : Int32 → Option (Int32)) (hk : ∀ (v1 : Int32) (w2 : Int32) (z3 : Option Value), dY shM d mj193 (dP h) (k v1) 53 [some (.ref 0), some (.int v1), some (.int w2), z3] [] h) : ∀ (n : Nat) (v1 : Int32) (v2 : Int32) (z3 : Option Value), dY shM d mj193 (dP h) (l_X7_friends_4  h k n v1 v2) 4 [some (.ref 0), some (.int v1), some (.int v2), z3] [] h
  | 0, _, _, _ => dY_none
  | n + 1, v1, v2, z3 => by
    rw [l_X7_friends_4]
    refine y_iload_n (q := 5) rfl rfl rfl ?_
    refine y_aload_n (q := 6) rfl rfl rfl ?_
    refine y_getI (q := 9) rfl rfl (by decide) atM0 rfl rfl ?_
    refine y_ge (q := 53) (q' := 12) rfl rfl rfl rfl rfl (fun c1 => ?_) (fun c2 => ?_)
    · skip
      refine y_iload_n (q := 13) rfl rfl rfl ?_
      refine y_iconst (x := 1) (q := 14) rfl (by decide) rfl ?_
      refine y_iadd (q := 15) rfl rfl ?_
      refine y_istore_n (lo' := [some (.ref 0), some (.int v1), some (.int v2), some (.int (v2 + 1))]) (q := 16) rfl (Nat.le_of_ble_eq_true rfl) rfl rfl ?_
      refine lz_X7_friends_16 hd v2 h _ (fun v1_8 z9 => ?_) fuel0 v1 (v2 + 1)  
      refine y_iinc (z := (v2 + 1)) (lo' := [some (.ref 0), some (.int v1_8), some (.int (v2 + 1)), some (.int z9)]) (q := 50) rfl rfl (Nat.le_of_ble_eq_true rfl) (by rw [oi_1]) rfl rfl ?_
      refine y_goto (q := 4) rfl rfl ?_
      exact lz_X7_friends_4 hd  h k hk n v1_8 (v2 + 1)  (some (.int z9))
    · skip
      exact hk v1 v2 (z3) 
def f_X7_friends  (h : dH) : Option (Int32) := l_X7_friends_4  h (fun v1_10 => (some v1_10)) fuel0 0 0 
theorem m_X7_friends {d : Nat} (hd : 3 ≤ d)  (h : dH) : dX shM d 193 [.ref 0] (dP h) (f_X7_friends  h) h := by
  obtain ⟨e, rfl⟩ : ∃ e, d = e + 1 := ⟨d - 1, by omega⟩
  have hd : 2 ≤ e := by omega
  refine dX_of (mj := mj193) (lo := [some (.ref 0), none, none, none]) rfl (Nat.le_of_ble_eq_true rfl) rfl ?_
  unfold f_X7_friends
  refine y_iconst (x := 0) (q := 1) rfl (by decide) rfl ?_
  refine y_istore_n (lo' := [some (.ref 0), some (.int 0), none, none]) (q := 2) rfl (Nat.le_of_ble_eq_true rfl) rfl rfl ?_
  refine y_iconst (x := 0) (q := 3) rfl (by decide) rfl ?_
  refine y_istore_n (lo' := [some (.ref 0), some (.int 0), some (.int 0), none]) (q := 4) rfl (Nat.le_of_ble_eq_true rfl) rfl rfl ?_
  refine lz_X7_friends_4 hd  h _ (fun v1_10 z11 z12 => ?_) fuel0 0 0  (none)
  refine y_iload_n (q := 54) rfl rfl rfl ?_
  exact y_retP rfl (by decide) rfl rfl
def f_X7_feast  (h : dH) : Option (Int32 × dH) := oV (f_X7_feasts  h) (fun g1 => oP (f_X7_friends  g1) (fun r2 => some (r2, g1)))
theorem m_X7_feast {d : Nat} (hd : 46 ≤ d)  (h : dH) : dX shM d 190 [.ref 0] dI (f_X7_feast  h) h := by
  obtain ⟨e, rfl⟩ : ∃ e, d = e + 1 := ⟨d - 1, by omega⟩
  have hd : 45 ≤ e := by omega
  refine dX_of (mj := mj190) (lo := [some (.ref 0)]) rfl (Nat.le_of_ble_eq_true rfl) rfl ?_
  unfold f_X7_feast
  refine y_aload_n (q := 1) rfl rfl rfl ?_
  refine y_callV (I := .invokevirtual 376) (idx := 376) (KD := 1) (J := 198) (mj := mj188) (as := [.ref 0]) (r := []) (q := 4) rfl (fun _ _ _ _ _ _ => rfl) rfl (by decide) rfl rfl rfl rfl rfl (Nat.le_of_ble_eq_true rfl) (d_recv atM0 (by decide) (by decide)) rfl (m_X7_feasts (Nat.le_trans (by decide) hd)  h) (fun g1 => ?_)
  refine y_aload_n (q := 5) rfl rfl rfl ?_
  refine y_callP (I := .invokevirtual 379) (idx := 379) (KD := 1) (J := 203) (mj := mj193) (as := [.ref 0]) (r := []) (q := 8) rfl (fun _ _ _ _ _ _ => rfl) rfl (by decide) rfl rfl rfl rfl rfl (Nat.le_of_ble_eq_true rfl) (d_recv atM0 (by decide) (by decide)) rfl (m_X7_friends (Nat.le_trans (by decide) hd)  g1) (fun r2 => ?_)
  exact y_retI rfl (by decide) rfl rfl
def f_X7_year  (h : dH) : Option (Int32 × dH) := if (h 0 7).toInt = 999 then (some ((-3), h)) else (oV (f_X7_fades  h) (fun g3 => oP (f_X7_friends  g3) (fun r4 => some (r4, g3))))
theorem m_X7_year {d : Nat} (hd : 46 ≤ d)  (h : dH) : dX shM d 191 [.ref 0] dI (f_X7_year  h) h := by
  obtain ⟨e, rfl⟩ : ∃ e, d = e + 1 := ⟨d - 1, by omega⟩
  have hd : 45 ≤ e := by omega
  refine dX_of (mj := mj191) (lo := [some (.ref 0)]) rfl (Nat.le_of_ble_eq_true rfl) rfl ?_
  unfold f_X7_year
  refine y_aload_n (q := 1) rfl rfl rfl ?_
  refine y_getI (q := 4) rfl rfl (by decide) atM0 rfl rfl ?_
  refine y_sipush (x := 999) (q := 7) rfl (by decide) rfl ?_
  refine y_ne (q := 13) (q' := 10) rfl rfl (by decide) rfl rfl (fun c1 => ?_) (fun c2 => ?_)
  · skip
    refine y_bipush (x := (-3)) (q := 12) rfl (by decide) rfl ?_
    exact y_retI rfl (by decide) rfl rfl
  · skip
    refine y_aload_n (q := 14) rfl rfl rfl ?_
    refine y_callV (I := .invokevirtual 382) (idx := 382) (KD := 1) (J := 199) (mj := mj189) (as := [.ref 0]) (r := []) (q := 17) rfl (fun _ _ _ _ _ _ => rfl) rfl (by decide) rfl rfl rfl rfl rfl (Nat.le_of_ble_eq_true rfl) (d_recv atM0 (by decide) (by decide)) rfl (m_X7_fades (Nat.le_trans (by decide) hd)  h) (fun g3 => ?_)
    refine y_aload_n (q := 18) rfl rfl rfl ?_
    refine y_callP (I := .invokevirtual 379) (idx := 379) (KD := 1) (J := 203) (mj := mj193) (as := [.ref 0]) (r := []) (q := 21) rfl (fun _ _ _ _ _ _ => rfl) rfl (by decide) rfl rfl rfl rfl rfl (Nat.le_of_ble_eq_true rfl) (d_recv atM0 (by decide) (by decide)) rfl (m_X7_friends (Nat.le_trans (by decide) hd)  g3) (fun r4 => ?_)
    exact y_retI rfl (by decide) rfl rfl
def l_X7_waysAll_12 (v1 : Int32) (k : dH → Option (dH)) : Nat → Int32 → dH → Option (dH)
  | 0, _, _ => none
  | n + 1, v2, h => if v2.toInt < (h 0 13).toInt then (if v1.toInt = v2.toInt then (if 0 ≤ ((8 * v1) + v2).toInt ∧ ((8 * v1) + v2).toInt < 64 then (oH (dU h 8 (((8 * v1) + v2).toInt.toNat) 0) (fun g7 => l_X7_waysAll_12 v1 k n (v2 + 1) g7)) else none) else (oP (f_X7_knows v1 v2 h) (fun r9 => if r9.toInt = 0 then (if 0 ≤ ((8 * v1) + v2).toInt ∧ ((8 * v1) + v2).toInt < 64 then (oH (dU h 8 (((8 * v1) + v2).toInt.toNat) (-1)) (fun g12 => l_X7_waysAll_12 v1 k n (v2 + 1) g12)) else none) else (if 0 ≤ ((8 * v1) + v2).toInt ∧ ((8 * v1) + v2).toInt < 64 then (oH (dU h 8 (((8 * v1) + v2).toInt.toNat) 1) (fun g14 => l_X7_waysAll_12 v1 k n (v2 + 1) g14)) else none)))) else (k  h)
theorem lz_X7_waysAll_12 {d : Nat} (hd : 2 ≤ d) (v1 : Int32) (z3 : Option Value) (z4 : Option Value) (z5 : Option Value) (z6 : Option Value) (k : dH → Option (dH)) (hk : ∀ (w2 : Int32) (h : dH), dY shM d mj194 dV (k h) 60 [some (.ref 0), some (.int v1), some (.int w2), z3, z4, z5, z6] [] h) : ∀ (n : Nat) (v2 : Int32) (h : dH), dY shM d mj194 dV (l_X7_waysAll_12 v1 k n v2 h) 12 [some (.ref 0), some (.int v1), some (.int v2), z3, z4, z5, z6] [] h
  | 0, _, _ => dY_none
  | n + 1, v2, h => by
    rw [l_X7_waysAll_12]
    refine y_iload_n (q := 13) rfl rfl rfl ?_
    refine y_aload_n (q := 14) rfl rfl rfl ?_
    refine y_getI (q := 17) rfl rfl (by decide) atM0 rfl rfl ?_
    refine y_ge (q := 60) (q' := 20) rfl rfl rfl rfl rfl (fun c3 => ?_) (fun c4 => ?_)
    · skip
      refine y_aload_n (q := 21) rfl rfl rfl ?_
      refine y_getR (b := 8) (q := 24) rfl rfl (by decide) atM0 rfl rfl ?_
      refine y_bipush (x := 8) (q := 26) rfl (by decide) rfl ?_
      refine y_iload_n (q := 27) rfl rfl rfl ?_
      refine y_imul (q := 28) rfl rfl ?_
      refine y_iload_n (q := 29) rfl rfl rfl ?_
      refine y_iadd (q := 30) rfl rfl ?_
      refine y_iload_n (q := 31) rfl rfl rfl ?_
      refine y_iload_n (q := 32) rfl rfl rfl ?_
      refine y_ne (q := 39) (q' := 35) rfl rfl rfl rfl rfl (fun c5 => ?_) (fun c6 => ?_)
      · skip
        refine y_iconst (x := 0) (q := 36) rfl (by decide) rfl ?_
        refine y_goto (q := 53) rfl rfl ?_
        refine y_guard (fun c8 => ?_)
        refine y_iast (n := 64) (N := 64) (X := ((8 * v1) + v2).toInt) (K := ((8 * v1) + v2).toInt.toNat) (q := 54) rfl atM8 rfl rfl c8 rfl rfl (fun g7 => ?_)
        refine y_iinc (z := (v2 + 1)) (lo' := [some (.ref 0), some (.int v1), some (.int (v2 + 1)), z3, z4, z5, z6]) (q := 57) rfl rfl (Nat.le_of_ble_eq_true rfl) (by rw [oi_1]) rfl rfl ?_
        refine y_goto (q := 12) rfl rfl ?_
        exact lz_X7_waysAll_12 hd v1 z3 z4 z5 z6 k hk n (v2 + 1) g7 
      · skip
        refine y_aload_n (q := 40) rfl rfl rfl ?_
        refine y_iload_n (q := 41) rfl rfl rfl ?_
        refine y_iload_n (q := 42) rfl rfl rfl ?_
        refine y_callP (I := .invokevirtual 155) (idx := 155) (KD := 1) (J := 202) (mj := mj192) (as := [.ref 0, .int v1, .int v2]) (r := [.int ((8 * v1) + v2), .ref 8]) (q := 45) rfl (fun _ _ _ _ _ _ => rfl) rfl (by decide) rfl rfl rfl rfl rfl (Nat.le_of_ble_eq_true rfl) (d_recv atM0 (by decide) (by decide)) rfl (m_X7_knows (Nat.le_trans (by decide) hd) v1 v2 h) (fun r9 => ?_)
        refine y_eq0 (q := 52) (q' := 48) rfl rfl rfl rfl (fun c10 => ?_) (fun c11 => ?_)
        · skip
          refine y_iconst (x := (-1)) (q := 53) rfl (by decide) rfl ?_
          refine y_guard (fun c13 => ?_)
          refine y_iast (n := 64) (N := 64) (X := ((8 * v1) + v2).toInt) (K := ((8 * v1) + v2).toInt.toNat) (q := 54) rfl atM8 rfl rfl c13 rfl rfl (fun g12 => ?_)
          refine y_iinc (z := (v2 + 1)) (lo' := [some (.ref 0), some (.int v1), some (.int (v2 + 1)), z3, z4, z5, z6]) (q := 57) rfl rfl (Nat.le_of_ble_eq_true rfl) (by rw [oi_1]) rfl rfl ?_
          refine y_goto (q := 12) rfl rfl ?_
          exact lz_X7_waysAll_12 hd v1 z3 z4 z5 z6 k hk n (v2 + 1) g12 
        · skip
          refine y_iconst (x := 1) (q := 49) rfl (by decide) rfl ?_
          refine y_goto (q := 53) rfl rfl ?_
          refine y_guard (fun c15 => ?_)
          refine y_iast (n := 64) (N := 64) (X := ((8 * v1) + v2).toInt) (K := ((8 * v1) + v2).toInt.toNat) (q := 54) rfl atM8 rfl rfl c15 rfl rfl (fun g14 => ?_)
          refine y_iinc (z := (v2 + 1)) (lo' := [some (.ref 0), some (.int v1), some (.int (v2 + 1)), z3, z4, z5, z6]) (q := 57) rfl rfl (Nat.le_of_ble_eq_true rfl) (by rw [oi_1]) rfl rfl ?_
          refine y_goto (q := 12) rfl rfl ?_
          exact lz_X7_waysAll_12 hd v1 z3 z4 z5 z6 k hk n (v2 + 1) g14 
    · skip
      exact hk  v2 h
def l_X7_waysAll_2  (k : dH → Option (dH)) : Nat → Int32 → dH → Option (dH)
  | 0, _, _ => none
  | n + 1, v1, h => if v1.toInt < (h 0 13).toInt then (l_X7_waysAll_12 v1  (fun g17 => l_X7_waysAll_2  k n (v1 + 1) g17) fuel0 0 h) else (k  h)
theorem lz_X7_waysAll_2 {d : Nat} (hd : 2 ≤ d) (z3 : Option Value) (z4 : Option Value) (z5 : Option Value) (z6 : Option Value) (k : dH → Option (dH)) (hk : ∀ (w1 : Int32) (z2 : Option Value) (h : dH), dY shM d mj194 dV (k h) 66 [some (.ref 0), some (.int w1), z2, z3, z4, z5, z6] [] h) : ∀ (n : Nat) (v1 : Int32) (h : dH) (z2 : Option Value), dY shM d mj194 dV (l_X7_waysAll_2  k n v1 h) 2 [some (.ref 0), some (.int v1), z2, z3, z4, z5, z6] [] h
  | 0, _, _, _ => dY_none
  | n + 1, v1, h, z2 => by
    rw [l_X7_waysAll_2]
    refine y_iload_n (q := 3) rfl rfl rfl ?_
    refine y_aload_n (q := 4) rfl rfl rfl ?_
    refine y_getI (q := 7) rfl rfl (by decide) atM0 rfl rfl ?_
    refine y_ge (q := 66) (q' := 10) rfl rfl rfl rfl rfl (fun c1 => ?_) (fun c2 => ?_)
    · skip
      refine y_iconst (x := 0) (q := 11) rfl (by decide) rfl ?_
      refine y_istore_n (lo' := [some (.ref 0), some (.int v1), some (.int 0), z3, z4, z5, z6]) (q := 12) rfl (Nat.le_of_ble_eq_true rfl) rfl rfl ?_
      refine lz_X7_waysAll_12 hd v1 (z3) (z4) (z5) (z6)  _ (fun z16 g17 => ?_) fuel0 0 h 
      refine y_iinc (z := (v1 + 1)) (lo' := [some (.ref 0), some (.int (v1 + 1)), some (.int z16), z3, z4, z5, z6]) (q := 63) rfl rfl (Nat.le_of_ble_eq_true rfl) (by rw [oi_1]) rfl rfl ?_
      refine y_goto (q := 2) rfl rfl ?_
      exact lz_X7_waysAll_2 hd z3 z4 z5 z6 k hk n (v1 + 1) g17 (some (.int z16))
    · skip
      exact hk  v1 (z2) h
def l_X7_waysAll_88 (v1 : Int32) (v2 : Int32) (k : dH → Option (dH)) : Nat → Int32 → dH → Option (dH)
  | 0, _, _ => none
  | n + 1, v3, h => if v3.toInt < (h 0 13).toInt then (if 0 ≤ ((8 * v2) + v1).toInt ∧ ((8 * v2) + v1).toInt < 64 then (if 0 ≤ ((8 * v1) + v3).toInt ∧ ((8 * v1) + v3).toInt < 64 then (if 0 ≤ ((8 * v2) + v3).toInt ∧ ((8 * v2) + v3).toInt < 64 then (if (h 8 (((8 * v2) + v1).toInt.toNat)).toInt = (-1) then (l_X7_waysAll_88 v1 v2 k n (v3 + 1) h) else (if (h 8 (((8 * v1) + v3).toInt.toNat)).toInt = (-1) then (l_X7_waysAll_88 v1 v2 k n (v3 + 1) h) else (if (h 8 (((8 * v2) + v3).toInt.toNat)).toInt = (-1) then (if 0 ≤ ((8 * v2) + v3).toInt ∧ ((8 * v2) + v3).toInt < 64 then (oH (dU h 8 (((8 * v2) + v3).toInt.toNat) ((h 8 (((8 * v2) + v1).toInt.toNat)) + (h 8 (((8 * v1) + v3).toInt.toNat)))) (fun g36 => l_X7_waysAll_88 v1 v2 k n (v3 + 1) g36)) else none) else (if ((h 8 (((8 * v2) + v1).toInt.toNat)) + (h 8 (((8 * v1) + v3).toInt.toNat))).toInt < (h 8 (((8 * v2) + v3).toInt.toNat)).toInt then (if 0 ≤ ((8 * v2) + v3).toInt ∧ ((8 * v2) + v3).toInt < 64 then (oH (dU h 8 (((8 * v2) + v3).toInt.toNat) ((h 8 (((8 * v2) + v1).toInt.toNat)) + (h 8 (((8 * v1) + v3).toInt.toNat)))) (fun g40 => l_X7_waysAll_88 v1 v2 k n (v3 + 1) g40)) else none) else (l_X7_waysAll_88 v1 v2 k n (v3 + 1) h))))) else none) else none) else none) else (k  h)
theorem lz_X7_waysAll_88 {d : Nat} (hd : 2 ≤ d) (v1 : Int32) (v2 : Int32) (k : dH → Option (dH)) (hk : ∀ (w3 : Int32) (z4 : Option Value) (z5 : Option Value) (z6 : Option Value) (h : dH), dY shM d mj194 dV (k h) 185 [some (.ref 0), some (.int v1), some (.int v2), some (.int w3), z4, z5, z6] [] h) : ∀ (n : Nat) (v3 : Int32) (h : dH) (z4 : Option Value) (z5 : Option Value) (z6 : Option Value), dY shM d mj194 dV (l_X7_waysAll_88 v1 v2 k n v3 h) 88 [some (.ref 0), some (.int v1), some (.int v2), some (.int v3), z4, z5, z6] [] h
  | 0, _, _, _, _, _ => dY_none
  | n + 1, v3, h, z4, z5, z6 => by
    rw [l_X7_waysAll_88]
    refine y_iload_n (q := 89) rfl rfl rfl ?_
    refine y_aload_n (q := 90) rfl rfl rfl ?_
    refine y_getI (q := 93) rfl rfl (by decide) atM0 rfl rfl ?_
    refine y_ge (q := 185) (q' := 96) rfl rfl rfl rfl rfl (fun c25 => ?_) (fun c26 => ?_)
    · skip
      refine y_aload_n (q := 97) rfl rfl rfl ?_
      refine y_getR (b := 8) (q := 100) rfl rfl (by decide) atM0 rfl rfl ?_
      refine y_bipush (x := 8) (q := 102) rfl (by decide) rfl ?_
      refine y_iload_n (q := 103) rfl rfl rfl ?_
      refine y_imul (q := 104) rfl rfl ?_
      refine y_iload_n (q := 105) rfl rfl rfl ?_
      refine y_iadd (q := 106) rfl rfl ?_
      refine y_guard (fun c27 => ?_)
      refine y_iald (n := 64) (N := 64) (X := ((8 * v2) + v1).toInt) (K := ((8 * v2) + v1).toInt.toNat) (q := 107) hbM rfl atM8 rfl rfl c27 rfl rfl ?_
      refine y_istore (lo' := [some (.ref 0), some (.int v1), some (.int v2), some (.int v3), some (.int (h 8 (((8 * v2) + v1).toInt.toNat))), z5, z6]) (q := 109) rfl (Nat.le_of_ble_eq_true rfl) rfl rfl ?_
      refine y_aload_n (q := 110) rfl rfl rfl ?_
      refine y_getR (b := 8) (q := 113) rfl rfl (by decide) atM0 rfl rfl ?_
      refine y_bipush (x := 8) (q := 115) rfl (by decide) rfl ?_
      refine y_iload_n (q := 116) rfl rfl rfl ?_
      refine y_imul (q := 117) rfl rfl ?_
      refine y_iload_n (q := 118) rfl rfl rfl ?_
      refine y_iadd (q := 119) rfl rfl ?_
      refine y_guard (fun c28 => ?_)
      refine y_iald (n := 64) (N := 64) (X := ((8 * v1) + v3).toInt) (K := ((8 * v1) + v3).toInt.toNat) (q := 120) hbM rfl atM8 rfl rfl c28 rfl rfl ?_
      refine y_istore (lo' := [some (.ref 0), some (.int v1), some (.int v2), some (.int v3), some (.int (h 8 (((8 * v2) + v1).toInt.toNat))), some (.int (h 8 (((8 * v1) + v3).toInt.toNat))), z6]) (q := 122) rfl (Nat.le_of_ble_eq_true rfl) rfl rfl ?_
      refine y_aload_n (q := 123) rfl rfl rfl ?_
      refine y_getR (b := 8) (q := 126) rfl rfl (by decide) atM0 rfl rfl ?_
      refine y_bipush (x := 8) (q := 128) rfl (by decide) rfl ?_
      refine y_iload_n (q := 129) rfl rfl rfl ?_
      refine y_imul (q := 130) rfl rfl ?_
      refine y_iload_n (q := 131) rfl rfl rfl ?_
      refine y_iadd (q := 132) rfl rfl ?_
      refine y_guard (fun c29 => ?_)
      refine y_iald (n := 64) (N := 64) (X := ((8 * v2) + v3).toInt) (K := ((8 * v2) + v3).toInt.toNat) (q := 133) hbM rfl atM8 rfl rfl c29 rfl rfl ?_
      refine y_istore (lo' := [some (.ref 0), some (.int v1), some (.int v2), some (.int v3), some (.int (h 8 (((8 * v2) + v1).toInt.toNat))), some (.int (h 8 (((8 * v1) + v3).toInt.toNat))), some (.int (h 8 (((8 * v2) + v3).toInt.toNat)))]) (q := 135) rfl (Nat.le_of_ble_eq_true rfl) rfl rfl ?_
      refine y_iload (q := 137) rfl rfl rfl ?_
      refine y_iconst (x := (-1)) (q := 138) rfl (by decide) rfl ?_
      refine y_eq (q := 179) (q' := 141) rfl rfl (by decide) rfl rfl (fun c30 => ?_) (fun c31 => ?_)
      · skip
        refine y_iinc (z := (v3 + 1)) (lo' := [some (.ref 0), some (.int v1), some (.int v2), some (.int (v3 + 1)), some (.int (h 8 (((8 * v2) + v1).toInt.toNat))), some (.int (h 8 (((8 * v1) + v3).toInt.toNat))), some (.int (h 8 (((8 * v2) + v3).toInt.toNat)))]) (q := 182) rfl rfl (Nat.le_of_ble_eq_true rfl) (by rw [oi_1]) rfl rfl ?_
        refine y_goto (q := 88) rfl rfl ?_
        exact lz_X7_waysAll_88 hd v1 v2 k hk n (v3 + 1) h (some (.int (h 8 (((8 * v2) + v1).toInt.toNat)))) (some (.int (h 8 (((8 * v1) + v3).toInt.toNat)))) (some (.int (h 8 (((8 * v2) + v3).toInt.toNat))))
      · skip
        refine y_iload (q := 143) rfl rfl rfl ?_
        refine y_iconst (x := (-1)) (q := 144) rfl (by decide) rfl ?_
        refine y_eq (q := 179) (q' := 147) rfl rfl (by decide) rfl rfl (fun c32 => ?_) (fun c33 => ?_)
        · skip
          refine y_iinc (z := (v3 + 1)) (lo' := [some (.ref 0), some (.int v1), some (.int v2), some (.int (v3 + 1)), some (.int (h 8 (((8 * v2) + v1).toInt.toNat))), some (.int (h 8 (((8 * v1) + v3).toInt.toNat))), some (.int (h 8 (((8 * v2) + v3).toInt.toNat)))]) (q := 182) rfl rfl (Nat.le_of_ble_eq_true rfl) (by rw [oi_1]) rfl rfl ?_
          refine y_goto (q := 88) rfl rfl ?_
          exact lz_X7_waysAll_88 hd v1 v2 k hk n (v3 + 1) h (some (.int (h 8 (((8 * v2) + v1).toInt.toNat)))) (some (.int (h 8 (((8 * v1) + v3).toInt.toNat)))) (some (.int (h 8 (((8 * v2) + v3).toInt.toNat))))
        · skip
          refine y_iload (q := 149) rfl rfl rfl ?_
          refine y_iconst (x := (-1)) (q := 150) rfl (by decide) rfl ?_
          refine y_eq (q := 163) (q' := 153) rfl rfl (by decide) rfl rfl (fun c34 => ?_) (fun c35 => ?_)
          · skip
            refine y_aload_n (q := 164) rfl rfl rfl ?_
            refine y_getR (b := 8) (q := 167) rfl rfl (by decide) atM0 rfl rfl ?_
            refine y_bipush (x := 8) (q := 169) rfl (by decide) rfl ?_
            refine y_iload_n (q := 170) rfl rfl rfl ?_
            refine y_imul (q := 171) rfl rfl ?_
            refine y_iload_n (q := 172) rfl rfl rfl ?_
            refine y_iadd (q := 173) rfl rfl ?_
            refine y_iload (q := 175) rfl rfl rfl ?_
            refine y_iload (q := 177) rfl rfl rfl ?_
            refine y_iadd (q := 178) rfl rfl ?_
            refine y_guard (fun c37 => ?_)
            refine y_iast (n := 64) (N := 64) (X := ((8 * v2) + v3).toInt) (K := ((8 * v2) + v3).toInt.toNat) (q := 179) rfl atM8 rfl rfl c37 rfl rfl (fun g36 => ?_)
            refine y_iinc (z := (v3 + 1)) (lo' := [some (.ref 0), some (.int v1), some (.int v2), some (.int (v3 + 1)), some (.int (h 8 (((8 * v2) + v1).toInt.toNat))), some (.int (h 8 (((8 * v1) + v3).toInt.toNat))), some (.int (h 8 (((8 * v2) + v3).toInt.toNat)))]) (q := 182) rfl rfl (Nat.le_of_ble_eq_true rfl) (by rw [oi_1]) rfl rfl ?_
            refine y_goto (q := 88) rfl rfl ?_
            exact lz_X7_waysAll_88 hd v1 v2 k hk n (v3 + 1) g36 (some (.int (h 8 (((8 * v2) + v1).toInt.toNat)))) (some (.int (h 8 (((8 * v1) + v3).toInt.toNat)))) (some (.int (h 8 (((8 * v2) + v3).toInt.toNat))))
          · skip
            refine y_iload (q := 155) rfl rfl rfl ?_
            refine y_iload (q := 157) rfl rfl rfl ?_
            refine y_iadd (q := 158) rfl rfl ?_
            refine y_iload (q := 160) rfl rfl rfl ?_
            refine y_ge (q := 179) (q' := 163) rfl rfl rfl rfl rfl (fun c38 => ?_) (fun c39 => ?_)
            · skip
              refine y_aload_n (q := 164) rfl rfl rfl ?_
              refine y_getR (b := 8) (q := 167) rfl rfl (by decide) atM0 rfl rfl ?_
              refine y_bipush (x := 8) (q := 169) rfl (by decide) rfl ?_
              refine y_iload_n (q := 170) rfl rfl rfl ?_
              refine y_imul (q := 171) rfl rfl ?_
              refine y_iload_n (q := 172) rfl rfl rfl ?_
              refine y_iadd (q := 173) rfl rfl ?_
              refine y_iload (q := 175) rfl rfl rfl ?_
              refine y_iload (q := 177) rfl rfl rfl ?_
              refine y_iadd (q := 178) rfl rfl ?_
              refine y_guard (fun c41 => ?_)
              refine y_iast (n := 64) (N := 64) (X := ((8 * v2) + v3).toInt) (K := ((8 * v2) + v3).toInt.toNat) (q := 179) rfl atM8 rfl rfl c41 rfl rfl (fun g40 => ?_)
              refine y_iinc (z := (v3 + 1)) (lo' := [some (.ref 0), some (.int v1), some (.int v2), some (.int (v3 + 1)), some (.int (h 8 (((8 * v2) + v1).toInt.toNat))), some (.int (h 8 (((8 * v1) + v3).toInt.toNat))), some (.int (h 8 (((8 * v2) + v3).toInt.toNat)))]) (q := 182) rfl rfl (Nat.le_of_ble_eq_true rfl) (by rw [oi_1]) rfl rfl ?_
              refine y_goto (q := 88) rfl rfl ?_
              exact lz_X7_waysAll_88 hd v1 v2 k hk n (v3 + 1) g40 (some (.int (h 8 (((8 * v2) + v1).toInt.toNat)))) (some (.int (h 8 (((8 * v1) + v3).toInt.toNat)))) (some (.int (h 8 (((8 * v2) + v3).toInt.toNat))))
            · skip
              refine y_iinc (z := (v3 + 1)) (lo' := [some (.ref 0), some (.int v1), some (.int v2), some (.int (v3 + 1)), some (.int (h 8 (((8 * v2) + v1).toInt.toNat))), some (.int (h 8 (((8 * v1) + v3).toInt.toNat))), some (.int (h 8 (((8 * v2) + v3).toInt.toNat)))]) (q := 182) rfl rfl (Nat.le_of_ble_eq_true rfl) (by rw [oi_1]) rfl rfl ?_
              refine y_goto (q := 88) rfl rfl ?_
              exact lz_X7_waysAll_88 hd v1 v2 k hk n (v3 + 1) h (some (.int (h 8 (((8 * v2) + v1).toInt.toNat)))) (some (.int (h 8 (((8 * v1) + v3).toInt.toNat)))) (some (.int (h 8 (((8 * v2) + v3).toInt.toNat))))
    · skip
      exact hk  v3 (z4) (z5) (z6) h
def l_X7_waysAll_78 (v1 : Int32) (k : dH → Option (dH)) : Nat → Int32 → dH → Option (dH)
  | 0, _, _ => none
  | n + 1, v2, h => if v2.toInt < (h 0 13).toInt then (l_X7_waysAll_88 v1 v2  (fun g46 => l_X7_waysAll_78 v1 k n (v2 + 1) g46) fuel0 0 h) else (k  h)
theorem lz_X7_waysAll_78 {d : Nat} (hd : 2 ≤ d) (v1 : Int32) (k : dH → Option (dH)) (hk : ∀ (w2 : Int32) (z3 : Option Value) (z4 : Option Value) (z5 : Option Value) (z6 : Option Value) (h : dH), dY shM d mj194 dV (k h) 191 [some (.ref 0), some (.int v1), some (.int w2), z3, z4, z5, z6] [] h) : ∀ (n : Nat) (v2 : Int32) (h : dH) (z3 : Option Value) (z4 : Option Value) (z5 : Option Value) (z6 : Option Value), dY shM d mj194 dV (l_X7_waysAll_78 v1 k n v2 h) 78 [some (.ref 0), some (.int v1), some (.int v2), z3, z4, z5, z6] [] h
  | 0, _, _, _, _, _, _ => dY_none
  | n + 1, v2, h, z3, z4, z5, z6 => by
    rw [l_X7_waysAll_78]
    refine y_iload_n (q := 79) rfl rfl rfl ?_
    refine y_aload_n (q := 80) rfl rfl rfl ?_
    refine y_getI (q := 83) rfl rfl (by decide) atM0 rfl rfl ?_
    refine y_ge (q := 191) (q' := 86) rfl rfl rfl rfl rfl (fun c23 => ?_) (fun c24 => ?_)
    · skip
      refine y_iconst (x := 0) (q := 87) rfl (by decide) rfl ?_
      refine y_istore_n (lo' := [some (.ref 0), some (.int v1), some (.int v2), some (.int 0), z4, z5, z6]) (q := 88) rfl (Nat.le_of_ble_eq_true rfl) rfl rfl ?_
      refine lz_X7_waysAll_88 hd v1 v2  _ (fun z42 z43 z44 z45 g46 => ?_) fuel0 0 h (z4) (z5) (z6)
      refine y_iinc (z := (v2 + 1)) (lo' := [some (.ref 0), some (.int v1), some (.int (v2 + 1)), some (.int z42), z43, z44, z45]) (q := 188) rfl rfl (Nat.le_of_ble_eq_true rfl) (by rw [oi_1]) rfl rfl ?_
      refine y_goto (q := 78) rfl rfl ?_
      exact lz_X7_waysAll_78 hd v1 k hk n (v2 + 1) g46 (some (.int z42)) (z43) (z44) (z45)
    · skip
      exact hk  v2 (z3) (z4) (z5) (z6) h
def l_X7_waysAll_68  (k : dH → Option (dH)) : Nat → Int32 → dH → Option (dH)
  | 0, _, _ => none
  | n + 1, v1, h => if v1.toInt < (h 0 13).toInt then (l_X7_waysAll_78 v1  (fun g52 => l_X7_waysAll_68  k n (v1 + 1) g52) fuel0 0 h) else (k  h)
theorem lz_X7_waysAll_68 {d : Nat} (hd : 2 ≤ d)  (k : dH → Option (dH)) (hk : ∀ (w1 : Int32) (z2 : Option Value) (z3 : Option Value) (z4 : Option Value) (z5 : Option Value) (z6 : Option Value) (h : dH), dY shM d mj194 dV (k h) 197 [some (.ref 0), some (.int w1), z2, z3, z4, z5, z6] [] h) : ∀ (n : Nat) (v1 : Int32) (h : dH) (z2 : Option Value) (z3 : Option Value) (z4 : Option Value) (z5 : Option Value) (z6 : Option Value), dY shM d mj194 dV (l_X7_waysAll_68  k n v1 h) 68 [some (.ref 0), some (.int v1), z2, z3, z4, z5, z6] [] h
  | 0, _, _, _, _, _, _, _ => dY_none
  | n + 1, v1, h, z2, z3, z4, z5, z6 => by
    rw [l_X7_waysAll_68]
    refine y_iload_n (q := 69) rfl rfl rfl ?_
    refine y_aload_n (q := 70) rfl rfl rfl ?_
    refine y_getI (q := 73) rfl rfl (by decide) atM0 rfl rfl ?_
    refine y_ge (q := 197) (q' := 76) rfl rfl rfl rfl rfl (fun c21 => ?_) (fun c22 => ?_)
    · skip
      refine y_iconst (x := 0) (q := 77) rfl (by decide) rfl ?_
      refine y_istore_n (lo' := [some (.ref 0), some (.int v1), some (.int 0), z3, z4, z5, z6]) (q := 78) rfl (Nat.le_of_ble_eq_true rfl) rfl rfl ?_
      refine lz_X7_waysAll_78 hd v1  _ (fun z47 z48 z49 z50 z51 g52 => ?_) fuel0 0 h (z3) (z4) (z5) (z6)
      refine y_iinc (z := (v1 + 1)) (lo' := [some (.ref 0), some (.int (v1 + 1)), some (.int z47), z48, z49, z50, z51]) (q := 194) rfl rfl (Nat.le_of_ble_eq_true rfl) (by rw [oi_1]) rfl rfl ?_
      refine y_goto (q := 68) rfl rfl ?_
      exact lz_X7_waysAll_68 hd  k hk n (v1 + 1) g52 (some (.int z47)) (z48) (z49) (z50) (z51)
    · skip
      exact hk  v1 (z2) (z3) (z4) (z5) (z6) h
def f_X7_waysAll  (h : dH) : Option (dH) := l_X7_waysAll_2   (fun g20 => l_X7_waysAll_68   (fun g59 => some g59) fuel0 0 g20) fuel0 0 h
theorem m_X7_waysAll {d : Nat} (hd : 3 ≤ d)  (h : dH) : dX shM d 194 [.ref 0] dV (f_X7_waysAll  h) h := by
  obtain ⟨e, rfl⟩ : ∃ e, d = e + 1 := ⟨d - 1, by omega⟩
  have hd : 2 ≤ e := by omega
  refine dX_of (mj := mj194) (lo := [some (.ref 0), none, none, none, none, none, none]) rfl (Nat.le_of_ble_eq_true rfl) rfl ?_
  unfold f_X7_waysAll
  refine y_iconst (x := 0) (q := 1) rfl (by decide) rfl ?_
  refine y_istore_n (lo' := [some (.ref 0), some (.int 0), none, none, none, none, none]) (q := 2) rfl (Nat.le_of_ble_eq_true rfl) rfl rfl ?_
  refine lz_X7_waysAll_2 hd (none) (none) (none) (none)  _ (fun z18 z19 g20 => ?_) fuel0 0 h (none)
  refine y_iconst (x := 0) (q := 67) rfl (by decide) rfl ?_
  refine y_istore_n (lo' := [some (.ref 0), some (.int 0), z19, none, none, none, none]) (q := 68) rfl (Nat.le_of_ble_eq_true rfl) rfl rfl ?_
  refine lz_X7_waysAll_68 hd   _ (fun z53 z54 z55 z56 z57 z58 g59 => ?_) fuel0 0 g20 (z19) (none) (none) (none) (none)
  exact y_retV rfl rfl rfl
def l_X7_companies_29 (v2 : Int32) (h : dH) (k : Int32 → Option (Int32)) : Nat → Int32 → Int32 → Option (Int32)
  | 0, _, _ => none
  | n + 1, v3, v4 => if v4.toInt < v2.toInt then (if v3.toInt = 0 then (l_X7_companies_29 v2 h k n 0 (v4 + 1) ) else (if 0 ≤ ((8 * v2) + v4).toInt ∧ ((8 * v2) + v4).toInt < 64 then (if (h 8 (((8 * v2) + v4).toInt.toNat)).toInt = (-1) then (l_X7_companies_29 v2 h k n 1 (v4 + 1) ) else (l_X7_companies_29 v2 h k n 0 (v4 + 1) )) else none)) else (k v3 )
theorem lz_X7_companies_29 {d : Nat} (hd : 0 ≤ d) (v1 : Int32) (v2 : Int32) (h : dH) (k : Int32 → Option (Int32)) (hk : ∀ (v3 : Int32) (w4 : Int32), dY shM d mj195 (dP h) (k v3) 67 [some (.ref 0), some (.int v1), some (.int v2), some (.int v3), some (.int w4)] [] h) : ∀ (n : Nat) (v3 : Int32) (v4 : Int32), dY shM d mj195 (dP h) (l_X7_companies_29 v2 h k n v3 v4) 29 [some (.ref 0), some (.int v1), some (.int v2), some (.int v3), some (.int v4)] [] h
  | 0, _, _ => dY_none
  | n + 1, v3, v4 => by
    rw [l_X7_companies_29]
    refine y_iload (q := 31) rfl rfl rfl ?_
    refine y_iload_n (q := 32) rfl rfl rfl ?_
    refine y_ge (q := 67) (q' := 35) rfl rfl rfl rfl rfl (fun c5 => ?_) (fun c6 => ?_)
    · skip
      refine y_iload_n (q := 36) rfl rfl rfl ?_
      refine y_eq0 (q := 59) (q' := 39) rfl rfl rfl rfl (fun c7 => ?_) (fun c8 => ?_)
      · skip
        refine y_iconst (x := 0) (q := 60) rfl (by decide) rfl ?_
        refine y_istore_n (lo' := [some (.ref 0), some (.int v1), some (.int v2), some (.int 0), some (.int v4)]) (q := 61) rfl (Nat.le_of_ble_eq_true rfl) rfl rfl ?_
        refine y_iinc (z := (v4 + 1)) (lo' := [some (.ref 0), some (.int v1), some (.int v2), some (.int 0), some (.int (v4 + 1))]) (q := 64) rfl rfl (Nat.le_of_ble_eq_true rfl) (by rw [oi_1]) rfl rfl ?_
        refine y_goto (q := 29) rfl rfl ?_
        exact lz_X7_companies_29 hd v1 v2 h k hk n 0 (v4 + 1)  
      · skip
        refine y_aload_n (q := 40) rfl rfl rfl ?_
        refine y_getR (b := 8) (q := 43) rfl rfl (by decide) atM0 rfl rfl ?_
        refine y_bipush (x := 8) (q := 45) rfl (by decide) rfl ?_
        refine y_iload_n (q := 46) rfl rfl rfl ?_
        refine y_imul (q := 47) rfl rfl ?_
        refine y_iload (q := 49) rfl rfl rfl ?_
        refine y_iadd (q := 50) rfl rfl ?_
        refine y_guard (fun c9 => ?_)
        refine y_iald (n := 64) (N := 64) (X := ((8 * v2) + v4).toInt) (K := ((8 * v2) + v4).toInt.toNat) (q := 51) hbM rfl atM8 rfl rfl c9 rfl rfl ?_
        refine y_iconst (x := (-1)) (q := 52) rfl (by decide) rfl ?_
        refine y_ne (q := 59) (q' := 55) rfl rfl (by decide) rfl rfl (fun c10 => ?_) (fun c11 => ?_)
        · skip
          refine y_iconst (x := 1) (q := 56) rfl (by decide) rfl ?_
          refine y_goto (q := 60) rfl rfl ?_
          refine y_istore_n (lo' := [some (.ref 0), some (.int v1), some (.int v2), some (.int 1), some (.int v4)]) (q := 61) rfl (Nat.le_of_ble_eq_true rfl) rfl rfl ?_
          refine y_iinc (z := (v4 + 1)) (lo' := [some (.ref 0), some (.int v1), some (.int v2), some (.int 1), some (.int (v4 + 1))]) (q := 64) rfl rfl (Nat.le_of_ble_eq_true rfl) (by rw [oi_1]) rfl rfl ?_
          refine y_goto (q := 29) rfl rfl ?_
          exact lz_X7_companies_29 hd v1 v2 h k hk n 1 (v4 + 1)  
        · skip
          refine y_iconst (x := 0) (q := 60) rfl (by decide) rfl ?_
          refine y_istore_n (lo' := [some (.ref 0), some (.int v1), some (.int v2), some (.int 0), some (.int v4)]) (q := 61) rfl (Nat.le_of_ble_eq_true rfl) rfl rfl ?_
          refine y_iinc (z := (v4 + 1)) (lo' := [some (.ref 0), some (.int v1), some (.int v2), some (.int 0), some (.int (v4 + 1))]) (q := 64) rfl rfl (Nat.le_of_ble_eq_true rfl) (by rw [oi_1]) rfl rfl ?_
          refine y_goto (q := 29) rfl rfl ?_
          exact lz_X7_companies_29 hd v1 v2 h k hk n 0 (v4 + 1)  
    · skip
      exact hk v3 v4 
def l_X7_companies_4  (h : dH) (k : Int32 → Option (Int32)) : Nat → Int32 → Int32 → Option (Int32)
  | 0, _, _ => none
  | n + 1, v1, v2 => if v2.toInt < (h 0 13).toInt then (if v2.toInt = (h 0 31).toInt then (l_X7_companies_29 v2 h (fun v3_12 => if v3_12.toInt = 0 then (l_X7_companies_4  h k n (v1 + 0) (v2 + 1) ) else (l_X7_companies_4  h k n (v1 + 1) (v2 + 1) )) fuel0 0 0 ) else (l_X7_companies_29 v2 h (fun v3_16 => if v3_16.toInt = 0 then (l_X7_companies_4  h k n (v1 + 0) (v2 + 1) ) else (l_X7_companies_4  h k n (v1 + 1) (v2 + 1) )) fuel0 1 0 )) else (k v1 )
theorem lz_X7_companies_4 {d : Nat} (hd : 0 ≤ d)  (h : dH) (k : Int32 → Option (Int32)) (hk : ∀ (v1 : Int32) (w2 : Int32) (z3 : Option Value) (z4 : Option Value), dY shM d mj195 (dP h) (k v1) 85 [some (.ref 0), some (.int v1), some (.int w2), z3, z4] [] h) : ∀ (n : Nat) (v1 : Int32) (v2 : Int32) (z3 : Option Value) (z4 : Option Value), dY shM d mj195 (dP h) (l_X7_companies_4  h k n v1 v2) 4 [some (.ref 0), some (.int v1), some (.int v2), z3, z4] [] h
  | 0, _, _, _, _ => dY_none
  | n + 1, v1, v2, z3, z4 => by
    rw [l_X7_companies_4]
    refine y_iload_n (q := 5) rfl rfl rfl ?_
    refine y_aload_n (q := 6) rfl rfl rfl ?_
    refine y_getI (q := 9) rfl rfl (by decide) atM0 rfl rfl ?_
    refine y_ge (q := 85) (q' := 12) rfl rfl rfl rfl rfl (fun c1 => ?_) (fun c2 => ?_)
    · skip
      refine y_iload_n (q := 13) rfl rfl rfl ?_
      refine y_aload_n (q := 14) rfl rfl rfl ?_
      refine y_getI (q := 17) rfl rfl (by decide) atM0 rfl rfl ?_
      refine y_eq (q := 24) (q' := 20) rfl rfl rfl rfl rfl (fun c3 => ?_) (fun c4 => ?_)
      · skip
        refine y_iconst (x := 0) (q := 25) rfl (by decide) rfl ?_
        refine y_istore_n (lo' := [some (.ref 0), some (.int v1), some (.int v2), some (.int 0), z4]) (q := 26) rfl (Nat.le_of_ble_eq_true rfl) rfl rfl ?_
        refine y_iconst (x := 0) (q := 27) rfl (by decide) rfl ?_
        refine y_istore (lo' := [some (.ref 0), some (.int v1), some (.int v2), some (.int 0), some (.int 0)]) (q := 29) rfl (Nat.le_of_ble_eq_true rfl) rfl rfl ?_
        refine lz_X7_companies_29 hd v1 v2 h _ (fun v3_12 z13 => ?_) fuel0 0 0  
        refine y_iload_n (q := 68) rfl rfl rfl ?_
        refine y_iload_n (q := 69) rfl rfl rfl ?_
        refine y_eq0 (q := 76) (q' := 72) rfl rfl rfl rfl (fun c14 => ?_) (fun c15 => ?_)
        · skip
          refine y_iconst (x := 0) (q := 77) rfl (by decide) rfl ?_
          refine y_iadd (q := 78) rfl rfl ?_
          refine y_istore_n (lo' := [some (.ref 0), some (.int (v1 + 0)), some (.int v2), some (.int v3_12), some (.int z13)]) (q := 79) rfl (Nat.le_of_ble_eq_true rfl) rfl rfl ?_
          refine y_iinc (z := (v2 + 1)) (lo' := [some (.ref 0), some (.int (v1 + 0)), some (.int (v2 + 1)), some (.int v3_12), some (.int z13)]) (q := 82) rfl rfl (Nat.le_of_ble_eq_true rfl) (by rw [oi_1]) rfl rfl ?_
          refine y_goto (q := 4) rfl rfl ?_
          exact lz_X7_companies_4 hd  h k hk n (v1 + 0) (v2 + 1)  (some (.int v3_12)) (some (.int z13))
        · skip
          refine y_iconst (x := 1) (q := 73) rfl (by decide) rfl ?_
          refine y_goto (q := 77) rfl rfl ?_
          refine y_iadd (q := 78) rfl rfl ?_
          refine y_istore_n (lo' := [some (.ref 0), some (.int (v1 + 1)), some (.int v2), some (.int v3_12), some (.int z13)]) (q := 79) rfl (Nat.le_of_ble_eq_true rfl) rfl rfl ?_
          refine y_iinc (z := (v2 + 1)) (lo' := [some (.ref 0), some (.int (v1 + 1)), some (.int (v2 + 1)), some (.int v3_12), some (.int z13)]) (q := 82) rfl rfl (Nat.le_of_ble_eq_true rfl) (by rw [oi_1]) rfl rfl ?_
          refine y_goto (q := 4) rfl rfl ?_
          exact lz_X7_companies_4 hd  h k hk n (v1 + 1) (v2 + 1)  (some (.int v3_12)) (some (.int z13))
      · skip
        refine y_iconst (x := 1) (q := 21) rfl (by decide) rfl ?_
        refine y_goto (q := 25) rfl rfl ?_
        refine y_istore_n (lo' := [some (.ref 0), some (.int v1), some (.int v2), some (.int 1), z4]) (q := 26) rfl (Nat.le_of_ble_eq_true rfl) rfl rfl ?_
        refine y_iconst (x := 0) (q := 27) rfl (by decide) rfl ?_
        refine y_istore (lo' := [some (.ref 0), some (.int v1), some (.int v2), some (.int 1), some (.int 0)]) (q := 29) rfl (Nat.le_of_ble_eq_true rfl) rfl rfl ?_
        refine lz_X7_companies_29 hd v1 v2 h _ (fun v3_16 z17 => ?_) fuel0 1 0  
        refine y_iload_n (q := 68) rfl rfl rfl ?_
        refine y_iload_n (q := 69) rfl rfl rfl ?_
        refine y_eq0 (q := 76) (q' := 72) rfl rfl rfl rfl (fun c18 => ?_) (fun c19 => ?_)
        · skip
          refine y_iconst (x := 0) (q := 77) rfl (by decide) rfl ?_
          refine y_iadd (q := 78) rfl rfl ?_
          refine y_istore_n (lo' := [some (.ref 0), some (.int (v1 + 0)), some (.int v2), some (.int v3_16), some (.int z17)]) (q := 79) rfl (Nat.le_of_ble_eq_true rfl) rfl rfl ?_
          refine y_iinc (z := (v2 + 1)) (lo' := [some (.ref 0), some (.int (v1 + 0)), some (.int (v2 + 1)), some (.int v3_16), some (.int z17)]) (q := 82) rfl rfl (Nat.le_of_ble_eq_true rfl) (by rw [oi_1]) rfl rfl ?_
          refine y_goto (q := 4) rfl rfl ?_
          exact lz_X7_companies_4 hd  h k hk n (v1 + 0) (v2 + 1)  (some (.int v3_16)) (some (.int z17))
        · skip
          refine y_iconst (x := 1) (q := 73) rfl (by decide) rfl ?_
          refine y_goto (q := 77) rfl rfl ?_
          refine y_iadd (q := 78) rfl rfl ?_
          refine y_istore_n (lo' := [some (.ref 0), some (.int (v1 + 1)), some (.int v2), some (.int v3_16), some (.int z17)]) (q := 79) rfl (Nat.le_of_ble_eq_true rfl) rfl rfl ?_
          refine y_iinc (z := (v2 + 1)) (lo' := [some (.ref 0), some (.int (v1 + 1)), some (.int (v2 + 1)), some (.int v3_16), some (.int z17)]) (q := 82) rfl rfl (Nat.le_of_ble_eq_true rfl) (by rw [oi_1]) rfl rfl ?_
          refine y_goto (q := 4) rfl rfl ?_
          exact lz_X7_companies_4 hd  h k hk n (v1 + 1) (v2 + 1)  (some (.int v3_16)) (some (.int z17))
    · skip
      exact hk v1 v2 (z3) (z4) 
def f_X7_companies  (h : dH) : Option (Int32) := l_X7_companies_4  h (fun v1_20 => (some v1_20)) fuel0 0 0 
theorem m_X7_companies {d : Nat} (hd : 1 ≤ d)  (h : dH) : dX shM d 195 [.ref 0] (dP h) (f_X7_companies  h) h := by
  obtain ⟨e, rfl⟩ : ∃ e, d = e + 1 := ⟨d - 1, by omega⟩
  have hd : 0 ≤ e := by omega
  refine dX_of (mj := mj195) (lo := [some (.ref 0), none, none, none, none]) rfl (Nat.le_of_ble_eq_true rfl) rfl ?_
  unfold f_X7_companies
  refine y_iconst (x := 0) (q := 1) rfl (by decide) rfl ?_
  refine y_istore_n (lo' := [some (.ref 0), some (.int 0), none, none, none]) (q := 2) rfl (Nat.le_of_ble_eq_true rfl) rfl rfl ?_
  refine y_iconst (x := 0) (q := 3) rfl (by decide) rfl ?_
  refine y_istore_n (lo' := [some (.ref 0), some (.int 0), some (.int 0), none, none]) (q := 4) rfl (Nat.le_of_ble_eq_true rfl) rfl rfl ?_
  refine lz_X7_companies_4 hd  h _ (fun v1_20 z21 z22 z23 => ?_) fuel0 0 0  (none) (none)
  refine y_iload_n (q := 86) rfl rfl rfl ?_
  exact y_retP rfl (by decide) rfl rfl
def l_X7_largest_17 (v2 : Int32) (h : dH) (k : Int32 → Option (Int32)) : Nat → Int32 → Int32 → Option (Int32)
  | 0, _, _ => none
  | n + 1, v3, v4 => if v4.toInt < (h 0 13).toInt then (if 0 ≤ ((8 * v2) + v4).toInt ∧ ((8 * v2) + v4).toInt < 64 then (if (h 8 (((8 * v2) + v4).toInt.toNat)).toInt = (-1) then (l_X7_largest_17 v2 h k n (v3 + 0) (v4 + 1) ) else (l_X7_largest_17 v2 h k n (v3 + 1) (v4 + 1) )) else none) else (k v3 )
theorem lz_X7_largest_17 {d : Nat} (hd : 0 ≤ d) (v1 : Int32) (v2 : Int32) (h : dH) (k : Int32 → Option (Int32)) (hk : ∀ (v3 : Int32) (w4 : Int32), dY shM d mj196 (dP h) (k v3) 56 [some (.ref 0), some (.int v1), some (.int v2), some (.int v3), some (.int w4)] [] h) : ∀ (n : Nat) (v3 : Int32) (v4 : Int32), dY shM d mj196 (dP h) (l_X7_largest_17 v2 h k n v3 v4) 17 [some (.ref 0), some (.int v1), some (.int v2), some (.int v3), some (.int v4)] [] h
  | 0, _, _ => dY_none
  | n + 1, v3, v4 => by
    rw [l_X7_largest_17]
    refine y_iload (q := 19) rfl rfl rfl ?_
    refine y_aload_n (q := 20) rfl rfl rfl ?_
    refine y_getI (q := 23) rfl rfl (by decide) atM0 rfl rfl ?_
    refine y_ge (q := 56) (q' := 26) rfl rfl rfl rfl rfl (fun c3 => ?_) (fun c4 => ?_)
    · skip
      refine y_iload_n (q := 27) rfl rfl rfl ?_
      refine y_aload_n (q := 28) rfl rfl rfl ?_
      refine y_getR (b := 8) (q := 31) rfl rfl (by decide) atM0 rfl rfl ?_
      refine y_bipush (x := 8) (q := 33) rfl (by decide) rfl ?_
      refine y_iload_n (q := 34) rfl rfl rfl ?_
      refine y_imul (q := 35) rfl rfl ?_
      refine y_iload (q := 37) rfl rfl rfl ?_
      refine y_iadd (q := 38) rfl rfl ?_
      refine y_guard (fun c5 => ?_)
      refine y_iald (n := 64) (N := 64) (X := ((8 * v2) + v4).toInt) (K := ((8 * v2) + v4).toInt.toNat) (q := 39) hbM rfl atM8 rfl rfl c5 rfl rfl ?_
      refine y_iconst (x := (-1)) (q := 40) rfl (by decide) rfl ?_
      refine y_ne (q := 47) (q' := 43) rfl rfl (by decide) rfl rfl (fun c6 => ?_) (fun c7 => ?_)
      · skip
        refine y_iconst (x := 0) (q := 44) rfl (by decide) rfl ?_
        refine y_goto (q := 48) rfl rfl ?_
        refine y_iadd (q := 49) rfl rfl ?_
        refine y_istore_n (lo' := [some (.ref 0), some (.int v1), some (.int v2), some (.int (v3 + 0)), some (.int v4)]) (q := 50) rfl (Nat.le_of_ble_eq_true rfl) rfl rfl ?_
        refine y_iinc (z := (v4 + 1)) (lo' := [some (.ref 0), some (.int v1), some (.int v2), some (.int (v3 + 0)), some (.int (v4 + 1))]) (q := 53) rfl rfl (Nat.le_of_ble_eq_true rfl) (by rw [oi_1]) rfl rfl ?_
        refine y_goto (q := 17) rfl rfl ?_
        exact lz_X7_largest_17 hd v1 v2 h k hk n (v3 + 0) (v4 + 1)  
      · skip
        refine y_iconst (x := 1) (q := 48) rfl (by decide) rfl ?_
        refine y_iadd (q := 49) rfl rfl ?_
        refine y_istore_n (lo' := [some (.ref 0), some (.int v1), some (.int v2), some (.int (v3 + 1)), some (.int v4)]) (q := 50) rfl (Nat.le_of_ble_eq_true rfl) rfl rfl ?_
        refine y_iinc (z := (v4 + 1)) (lo' := [some (.ref 0), some (.int v1), some (.int v2), some (.int (v3 + 1)), some (.int (v4 + 1))]) (q := 53) rfl rfl (Nat.le_of_ble_eq_true rfl) (by rw [oi_1]) rfl rfl ?_
        refine y_goto (q := 17) rfl rfl ?_
        exact lz_X7_largest_17 hd v1 v2 h k hk n (v3 + 1) (v4 + 1)  
    · skip
      exact hk v3 v4 
def l_X7_largest_4  (h : dH) (k : Int32 → Option (Int32)) : Nat → Int32 → Int32 → Option (Int32)
  | 0, _, _ => none
  | n + 1, v1, v2 => if v2.toInt < (h 0 13).toInt then (l_X7_largest_17 v2 h (fun v3_8 => if v1.toInt < v3_8.toInt then (l_X7_largest_4  h k n v3_8 (v2 + 1) ) else (l_X7_largest_4  h k n v1 (v2 + 1) )) fuel0 0 0 ) else (k v1 )
theorem lz_X7_largest_4 {d : Nat} (hd : 0 ≤ d)  (h : dH) (k : Int32 → Option (Int32)) (hk : ∀ (v1 : Int32) (w2 : Int32) (z3 : Option Value) (z4 : Option Value), dY shM d mj196 (dP h) (k v1) 73 [some (.ref 0), some (.int v1), some (.int w2), z3, z4] [] h) : ∀ (n : Nat) (v1 : Int32) (v2 : Int32) (z3 : Option Value) (z4 : Option Value), dY shM d mj196 (dP h) (l_X7_largest_4  h k n v1 v2) 4 [some (.ref 0), some (.int v1), some (.int v2), z3, z4] [] h
  | 0, _, _, _, _ => dY_none
  | n + 1, v1, v2, z3, z4 => by
    rw [l_X7_largest_4]
    refine y_iload_n (q := 5) rfl rfl rfl ?_
    refine y_aload_n (q := 6) rfl rfl rfl ?_
    refine y_getI (q := 9) rfl rfl (by decide) atM0 rfl rfl ?_
    refine y_ge (q := 73) (q' := 12) rfl rfl rfl rfl rfl (fun c1 => ?_) (fun c2 => ?_)
    · skip
      refine y_iconst (x := 0) (q := 13) rfl (by decide) rfl ?_
      refine y_istore_n (lo' := [some (.ref 0), some (.int v1), some (.int v2), some (.int 0), z4]) (q := 14) rfl (Nat.le_of_ble_eq_true rfl) rfl rfl ?_
      refine y_iconst (x := 0) (q := 15) rfl (by decide) rfl ?_
      refine y_istore (lo' := [some (.ref 0), some (.int v1), some (.int v2), some (.int 0), some (.int 0)]) (q := 17) rfl (Nat.le_of_ble_eq_true rfl) rfl rfl ?_
      refine lz_X7_largest_17 hd v1 v2 h _ (fun v3_8 z9 => ?_) fuel0 0 0  
      refine y_iload_n (q := 57) rfl rfl rfl ?_
      refine y_iload_n (q := 58) rfl rfl rfl ?_
      refine y_le (q := 65) (q' := 61) rfl rfl rfl rfl rfl (fun c10 => ?_) (fun c11 => ?_)
      · skip
        refine y_iload_n (q := 62) rfl rfl rfl ?_
        refine y_goto (q := 66) rfl rfl ?_
        refine y_istore_n (lo' := [some (.ref 0), some (.int v3_8), some (.int v2), some (.int v3_8), some (.int z9)]) (q := 67) rfl (Nat.le_of_ble_eq_true rfl) rfl rfl ?_
        refine y_iinc (z := (v2 + 1)) (lo' := [some (.ref 0), some (.int v3_8), some (.int (v2 + 1)), some (.int v3_8), some (.int z9)]) (q := 70) rfl rfl (Nat.le_of_ble_eq_true rfl) (by rw [oi_1]) rfl rfl ?_
        refine y_goto (q := 4) rfl rfl ?_
        exact lz_X7_largest_4 hd  h k hk n v3_8 (v2 + 1)  (some (.int v3_8)) (some (.int z9))
      · skip
        refine y_iload_n (q := 66) rfl rfl rfl ?_
        refine y_istore_n (lo' := [some (.ref 0), some (.int v1), some (.int v2), some (.int v3_8), some (.int z9)]) (q := 67) rfl (Nat.le_of_ble_eq_true rfl) rfl rfl ?_
        refine y_iinc (z := (v2 + 1)) (lo' := [some (.ref 0), some (.int v1), some (.int (v2 + 1)), some (.int v3_8), some (.int z9)]) (q := 70) rfl rfl (Nat.le_of_ble_eq_true rfl) (by rw [oi_1]) rfl rfl ?_
        refine y_goto (q := 4) rfl rfl ?_
        exact lz_X7_largest_4 hd  h k hk n v1 (v2 + 1)  (some (.int v3_8)) (some (.int z9))
    · skip
      exact hk v1 v2 (z3) (z4) 
def f_X7_largest  (h : dH) : Option (Int32) := l_X7_largest_4  h (fun v1_12 => (some v1_12)) fuel0 0 0 
theorem m_X7_largest {d : Nat} (hd : 1 ≤ d)  (h : dH) : dX shM d 196 [.ref 0] (dP h) (f_X7_largest  h) h := by
  obtain ⟨e, rfl⟩ : ∃ e, d = e + 1 := ⟨d - 1, by omega⟩
  have hd : 0 ≤ e := by omega
  refine dX_of (mj := mj196) (lo := [some (.ref 0), none, none, none, none]) rfl (Nat.le_of_ble_eq_true rfl) rfl ?_
  unfold f_X7_largest
  refine y_iconst (x := 0) (q := 1) rfl (by decide) rfl ?_
  refine y_istore_n (lo' := [some (.ref 0), some (.int 0), none, none, none]) (q := 2) rfl (Nat.le_of_ble_eq_true rfl) rfl rfl ?_
  refine y_iconst (x := 0) (q := 3) rfl (by decide) rfl ?_
  refine y_istore_n (lo' := [some (.ref 0), some (.int 0), some (.int 0), none, none]) (q := 4) rfl (Nat.le_of_ble_eq_true rfl) rfl rfl ?_
  refine lz_X7_largest_4 hd  h _ (fun v1_12 z13 z14 z15 => ?_) fuel0 0 0  (none) (none)
  refine y_iload_n (q := 74) rfl rfl rfl ?_
  exact y_retP rfl (by decide) rfl rfl
def l_X7_longest_15 (v1 : Int32) (v3 : Int32) (h : dH) (k : Int32 → Option (Int32)) : Nat → Int32 → Int32 → Option (Int32)
  | 0, _, _ => none
  | n + 1, v2, v4 => if v4.toInt < (h 0 13).toInt then (if 0 ≤ ((8 * v3) + v4).toInt ∧ ((8 * v3) + v4).toInt < 64 then (if (h 8 (((8 * v3) + v4).toInt.toNat)).toInt = (-1) then (if v2.toInt < v1.toInt then (l_X7_longest_15 v1 v3 h k n v1 (v4 + 1) ) else (l_X7_longest_15 v1 v3 h k n v2 (v4 + 1) )) else (if 0 ≤ ((8 * v3) + v4).toInt ∧ ((8 * v3) + v4).toInt < 64 then (if v2.toInt < (h 8 (((8 * v3) + v4).toInt.toNat)).toInt then (l_X7_longest_15 v1 v3 h k n (h 8 (((8 * v3) + v4).toInt.toNat)) (v4 + 1) ) else (l_X7_longest_15 v1 v3 h k n v2 (v4 + 1) )) else none)) else none) else (k v2 )
theorem lz_X7_longest_15 {d : Nat} (hd : 0 ≤ d) (v1 : Int32) (v3 : Int32) (h : dH) (k : Int32 → Option (Int32)) (hk : ∀ (v2 : Int32) (w4 : Int32) (z5 : Option Value), dY shM d mj197 (dP h) (k v2) 77 [some (.ref 0), some (.int v1), some (.int v2), some (.int v3), some (.int w4), z5] [] h) : ∀ (n : Nat) (v2 : Int32) (v4 : Int32) (z5 : Option Value), dY shM d mj197 (dP h) (l_X7_longest_15 v1 v3 h k n v2 v4) 15 [some (.ref 0), some (.int v1), some (.int v2), some (.int v3), some (.int v4), z5] [] h
  | 0, _, _, _ => dY_none
  | n + 1, v2, v4, z5 => by
    rw [l_X7_longest_15]
    refine y_iload (q := 17) rfl rfl rfl ?_
    refine y_aload_n (q := 18) rfl rfl rfl ?_
    refine y_getI (q := 21) rfl rfl (by decide) atM0 rfl rfl ?_
    refine y_ge (q := 77) (q' := 24) rfl rfl rfl rfl rfl (fun c3 => ?_) (fun c4 => ?_)
    · skip
      refine y_aload_n (q := 25) rfl rfl rfl ?_
      refine y_getR (b := 8) (q := 28) rfl rfl (by decide) atM0 rfl rfl ?_
      refine y_bipush (x := 8) (q := 30) rfl (by decide) rfl ?_
      refine y_iload_n (q := 31) rfl rfl rfl ?_
      refine y_imul (q := 32) rfl rfl ?_
      refine y_iload (q := 34) rfl rfl rfl ?_
      refine y_iadd (q := 35) rfl rfl ?_
      refine y_guard (fun c5 => ?_)
      refine y_iald (n := 64) (N := 64) (X := ((8 * v3) + v4).toInt) (K := ((8 * v3) + v4).toInt.toNat) (q := 36) hbM rfl atM8 rfl rfl c5 rfl rfl ?_
      refine y_iconst (x := (-1)) (q := 37) rfl (by decide) rfl ?_
      refine y_ne (q := 44) (q' := 40) rfl rfl (by decide) rfl rfl (fun c6 => ?_) (fun c7 => ?_)
      · skip
        refine y_iload_n (q := 41) rfl rfl rfl ?_
        refine y_goto (q := 56) rfl rfl ?_
        refine y_istore (lo' := [some (.ref 0), some (.int v1), some (.int v2), some (.int v3), some (.int v4), some (.int v1)]) (q := 58) rfl (Nat.le_of_ble_eq_true rfl) rfl rfl ?_
        refine y_iload (q := 60) rfl rfl rfl ?_
        refine y_iload_n (q := 61) rfl rfl rfl ?_
        refine y_le (q := 69) (q' := 64) rfl rfl rfl rfl rfl (fun c8 => ?_) (fun c9 => ?_)
        · skip
          refine y_iload (q := 66) rfl rfl rfl ?_
          refine y_goto (q := 70) rfl rfl ?_
          refine y_istore_n (lo' := [some (.ref 0), some (.int v1), some (.int v1), some (.int v3), some (.int v4), some (.int v1)]) (q := 71) rfl (Nat.le_of_ble_eq_true rfl) rfl rfl ?_
          refine y_iinc (z := (v4 + 1)) (lo' := [some (.ref 0), some (.int v1), some (.int v1), some (.int v3), some (.int (v4 + 1)), some (.int v1)]) (q := 74) rfl rfl (Nat.le_of_ble_eq_true rfl) (by rw [oi_1]) rfl rfl ?_
          refine y_goto (q := 15) rfl rfl ?_
          exact lz_X7_longest_15 hd v1 v3 h k hk n v1 (v4 + 1)  (some (.int v1))
        · skip
          refine y_iload_n (q := 70) rfl rfl rfl ?_
          refine y_istore_n (lo' := [some (.ref 0), some (.int v1), some (.int v2), some (.int v3), some (.int v4), some (.int v1)]) (q := 71) rfl (Nat.le_of_ble_eq_true rfl) rfl rfl ?_
          refine y_iinc (z := (v4 + 1)) (lo' := [some (.ref 0), some (.int v1), some (.int v2), some (.int v3), some (.int (v4 + 1)), some (.int v1)]) (q := 74) rfl rfl (Nat.le_of_ble_eq_true rfl) (by rw [oi_1]) rfl rfl ?_
          refine y_goto (q := 15) rfl rfl ?_
          exact lz_X7_longest_15 hd v1 v3 h k hk n v2 (v4 + 1)  (some (.int v1))
      · skip
        refine y_aload_n (q := 45) rfl rfl rfl ?_
        refine y_getR (b := 8) (q := 48) rfl rfl (by decide) atM0 rfl rfl ?_
        refine y_bipush (x := 8) (q := 50) rfl (by decide) rfl ?_
        refine y_iload_n (q := 51) rfl rfl rfl ?_
        refine y_imul (q := 52) rfl rfl ?_
        refine y_iload (q := 54) rfl rfl rfl ?_
        refine y_iadd (q := 55) rfl rfl ?_
        refine y_guard (fun c10 => ?_)
        refine y_iald (n := 64) (N := 64) (X := ((8 * v3) + v4).toInt) (K := ((8 * v3) + v4).toInt.toNat) (q := 56) hbM rfl atM8 rfl rfl c10 rfl rfl ?_
        refine y_istore (lo' := [some (.ref 0), some (.int v1), some (.int v2), some (.int v3), some (.int v4), some (.int (h 8 (((8 * v3) + v4).toInt.toNat)))]) (q := 58) rfl (Nat.le_of_ble_eq_true rfl) rfl rfl ?_
        refine y_iload (q := 60) rfl rfl rfl ?_
        refine y_iload_n (q := 61) rfl rfl rfl ?_
        refine y_le (q := 69) (q' := 64) rfl rfl rfl rfl rfl (fun c11 => ?_) (fun c12 => ?_)
        · skip
          refine y_iload (q := 66) rfl rfl rfl ?_
          refine y_goto (q := 70) rfl rfl ?_
          refine y_istore_n (lo' := [some (.ref 0), some (.int v1), some (.int (h 8 (((8 * v3) + v4).toInt.toNat))), some (.int v3), some (.int v4), some (.int (h 8 (((8 * v3) + v4).toInt.toNat)))]) (q := 71) rfl (Nat.le_of_ble_eq_true rfl) rfl rfl ?_
          refine y_iinc (z := (v4 + 1)) (lo' := [some (.ref 0), some (.int v1), some (.int (h 8 (((8 * v3) + v4).toInt.toNat))), some (.int v3), some (.int (v4 + 1)), some (.int (h 8 (((8 * v3) + v4).toInt.toNat)))]) (q := 74) rfl rfl (Nat.le_of_ble_eq_true rfl) (by rw [oi_1]) rfl rfl ?_
          refine y_goto (q := 15) rfl rfl ?_
          exact lz_X7_longest_15 hd v1 v3 h k hk n (h 8 (((8 * v3) + v4).toInt.toNat)) (v4 + 1)  (some (.int (h 8 (((8 * v3) + v4).toInt.toNat))))
        · skip
          refine y_iload_n (q := 70) rfl rfl rfl ?_
          refine y_istore_n (lo' := [some (.ref 0), some (.int v1), some (.int v2), some (.int v3), some (.int v4), some (.int (h 8 (((8 * v3) + v4).toInt.toNat)))]) (q := 71) rfl (Nat.le_of_ble_eq_true rfl) rfl rfl ?_
          refine y_iinc (z := (v4 + 1)) (lo' := [some (.ref 0), some (.int v1), some (.int v2), some (.int v3), some (.int (v4 + 1)), some (.int (h 8 (((8 * v3) + v4).toInt.toNat)))]) (q := 74) rfl rfl (Nat.le_of_ble_eq_true rfl) (by rw [oi_1]) rfl rfl ?_
          refine y_goto (q := 15) rfl rfl ?_
          exact lz_X7_longest_15 hd v1 v3 h k hk n v2 (v4 + 1)  (some (.int (h 8 (((8 * v3) + v4).toInt.toNat))))
    · skip
      exact hk v2 v4 (z5) 
def l_X7_longest_4 (v1 : Int32) (h : dH) (k : Int32 → Option (Int32)) : Nat → Int32 → Int32 → Option (Int32)
  | 0, _, _ => none
  | n + 1, v2, v3 => if v3.toInt < (h 0 13).toInt then (l_X7_longest_15 v1 v3 h (fun v2_13 => l_X7_longest_4 v1 h k n v2_13 (v3 + 1) ) fuel0 v2 0 ) else (k v2 )
theorem lz_X7_longest_4 {d : Nat} (hd : 0 ≤ d) (v1 : Int32) (h : dH) (k : Int32 → Option (Int32)) (hk : ∀ (v2 : Int32) (w3 : Int32) (z4 : Option Value) (z5 : Option Value), dY shM d mj197 (dP h) (k v2) 83 [some (.ref 0), some (.int v1), some (.int v2), some (.int w3), z4, z5] [] h) : ∀ (n : Nat) (v2 : Int32) (v3 : Int32) (z4 : Option Value) (z5 : Option Value), dY shM d mj197 (dP h) (l_X7_longest_4 v1 h k n v2 v3) 4 [some (.ref 0), some (.int v1), some (.int v2), some (.int v3), z4, z5] [] h
  | 0, _, _, _, _ => dY_none
  | n + 1, v2, v3, z4, z5 => by
    rw [l_X7_longest_4]
    refine y_iload_n (q := 5) rfl rfl rfl ?_
    refine y_aload_n (q := 6) rfl rfl rfl ?_
    refine y_getI (q := 9) rfl rfl (by decide) atM0 rfl rfl ?_
    refine y_ge (q := 83) (q' := 12) rfl rfl rfl rfl rfl (fun c1 => ?_) (fun c2 => ?_)
    · skip
      refine y_iconst (x := 0) (q := 13) rfl (by decide) rfl ?_
      refine y_istore (lo' := [some (.ref 0), some (.int v1), some (.int v2), some (.int v3), some (.int 0), z5]) (q := 15) rfl (Nat.le_of_ble_eq_true rfl) rfl rfl ?_
      refine lz_X7_longest_15 hd v1 v3 h _ (fun v2_13 z14 z15 => ?_) fuel0 v2 0  (z5)
      refine y_iinc (z := (v3 + 1)) (lo' := [some (.ref 0), some (.int v1), some (.int v2_13), some (.int (v3 + 1)), some (.int z14), z15]) (q := 80) rfl rfl (Nat.le_of_ble_eq_true rfl) (by rw [oi_1]) rfl rfl ?_
      refine y_goto (q := 4) rfl rfl ?_
      exact lz_X7_longest_4 hd v1 h k hk n v2_13 (v3 + 1)  (some (.int z14)) (z15)
    · skip
      exact hk v2 v3 (z4) (z5) 
def f_X7_longest (v1 : Int32) (h : dH) : Option (Int32) := l_X7_longest_4 v1 h (fun v2_16 => (some v2_16)) fuel0 0 0 
theorem m_X7_longest {d : Nat} (hd : 1 ≤ d) (v1 : Int32) (h : dH) : dX shM d 197 [.ref 0, .int v1] (dP h) (f_X7_longest v1 h) h := by
  obtain ⟨e, rfl⟩ : ∃ e, d = e + 1 := ⟨d - 1, by omega⟩
  have hd : 0 ≤ e := by omega
  refine dX_of (mj := mj197) (lo := [some (.ref 0), some (.int v1), none, none, none, none]) rfl (Nat.le_of_ble_eq_true rfl) rfl ?_
  unfold f_X7_longest
  refine y_iconst (x := 0) (q := 1) rfl (by decide) rfl ?_
  refine y_istore_n (lo' := [some (.ref 0), some (.int v1), some (.int 0), none, none, none]) (q := 2) rfl (Nat.le_of_ble_eq_true rfl) rfl rfl ?_
  refine y_iconst (x := 0) (q := 3) rfl (by decide) rfl ?_
  refine y_istore_n (lo' := [some (.ref 0), some (.int v1), some (.int 0), some (.int 0), none, none]) (q := 4) rfl (Nat.le_of_ble_eq_true rfl) rfl rfl ?_
  refine lz_X7_longest_4 hd v1 h _ (fun v2_16 z17 z18 z19 => ?_) fuel0 0 0  (none) (none)
  refine y_iload_n (q := 84) rfl rfl rfl ?_
  exact y_retP rfl (by decide) rfl rfl
def l_X7_strengthAll_16 (v2 : Int32) (h : dH) (k : Int32 → Option (Int32)) : Nat → Int32 → Int32 → Option (Int32)
  | 0, _, _ => none
  | n + 1, v1, v3 => if v3.toInt < (h 0 13).toInt then (oP (f_X7_strengthOf v2 v3 h) (fun r5 => l_X7_strengthAll_16 v2 h k n (v1 + r5) (v3 + 1) )) else (k v1 )
theorem lz_X7_strengthAll_16 {d : Nat} (hd : 1 ≤ d) (v2 : Int32) (h : dH) (k : Int32 → Option (Int32)) (hk : ∀ (v1 : Int32) (w3 : Int32), dY shM d mj198 (dP h) (k v1) 39 [some (.ref 0), some (.int v1), some (.int v2), some (.int w3)] [] h) : ∀ (n : Nat) (v1 : Int32) (v3 : Int32), dY shM d mj198 (dP h) (l_X7_strengthAll_16 v2 h k n v1 v3) 16 [some (.ref 0), some (.int v1), some (.int v2), some (.int v3)] [] h
  | 0, _, _ => dY_none
  | n + 1, v1, v3 => by
    rw [l_X7_strengthAll_16]
    refine y_iload_n (q := 17) rfl rfl rfl ?_
    refine y_aload_n (q := 18) rfl rfl rfl ?_
    refine y_getI (q := 21) rfl rfl (by decide) atM0 rfl rfl ?_
    refine y_ge (q := 39) (q' := 24) rfl rfl rfl rfl rfl (fun c3 => ?_) (fun c4 => ?_)
    · skip
      refine y_iload_n (q := 25) rfl rfl rfl ?_
      refine y_aload_n (q := 26) rfl rfl rfl ?_
      refine y_iload_n (q := 27) rfl rfl rfl ?_
      refine y_iload_n (q := 28) rfl rfl rfl ?_
      refine y_callP (I := .invokevirtual 139) (idx := 139) (KD := 1) (J := 136) (mj := mj126) (as := [.ref 0, .int v2, .int v3]) (r := [.int v1]) (q := 31) rfl (fun _ _ _ _ _ _ => rfl) rfl (by decide) rfl rfl rfl rfl rfl (Nat.le_of_ble_eq_true rfl) (d_recv atM0 (by decide) (by decide)) rfl (m_X7_strengthOf (Nat.le_trans (by decide) hd) v2 v3 h) (fun r5 => ?_)
      refine y_iadd (q := 32) rfl rfl ?_
      refine y_istore_n (lo' := [some (.ref 0), some (.int (v1 + r5)), some (.int v2), some (.int v3)]) (q := 33) rfl (Nat.le_of_ble_eq_true rfl) rfl rfl ?_
      refine y_iinc (z := (v3 + 1)) (lo' := [some (.ref 0), some (.int (v1 + r5)), some (.int v2), some (.int (v3 + 1))]) (q := 36) rfl rfl (Nat.le_of_ble_eq_true rfl) (by rw [oi_1]) rfl rfl ?_
      refine y_goto (q := 16) rfl rfl ?_
      exact lz_X7_strengthAll_16 hd v2 h k hk n (v1 + r5) (v3 + 1)  
    · skip
      exact hk v1 v3 
def l_X7_strengthAll_4  (h : dH) (k : Int32 → Option (Int32)) : Nat → Int32 → Int32 → Option (Int32)
  | 0, _, _ => none
  | n + 1, v1, v2 => if v2.toInt < (h 0 13).toInt then (l_X7_strengthAll_16 v2 h (fun v1_6 => l_X7_strengthAll_4  h k n v1_6 (v2 + 1) ) fuel0 v1 (v2 + 1) ) else (k v1 )
theorem lz_X7_strengthAll_4 {d : Nat} (hd : 1 ≤ d)  (h : dH) (k : Int32 → Option (Int32)) (hk : ∀ (v1 : Int32) (w2 : Int32) (z3 : Option Value), dY shM d mj198 (dP h) (k v1) 45 [some (.ref 0), some (.int v1), some (.int w2), z3] [] h) : ∀ (n : Nat) (v1 : Int32) (v2 : Int32) (z3 : Option Value), dY shM d mj198 (dP h) (l_X7_strengthAll_4  h k n v1 v2) 4 [some (.ref 0), some (.int v1), some (.int v2), z3] [] h
  | 0, _, _, _ => dY_none
  | n + 1, v1, v2, z3 => by
    rw [l_X7_strengthAll_4]
    refine y_iload_n (q := 5) rfl rfl rfl ?_
    refine y_aload_n (q := 6) rfl rfl rfl ?_
    refine y_getI (q := 9) rfl rfl (by decide) atM0 rfl rfl ?_
    refine y_ge (q := 45) (q' := 12) rfl rfl rfl rfl rfl (fun c1 => ?_) (fun c2 => ?_)
    · skip
      refine y_iload_n (q := 13) rfl rfl rfl ?_
      refine y_iconst (x := 1) (q := 14) rfl (by decide) rfl ?_
      refine y_iadd (q := 15) rfl rfl ?_
      refine y_istore_n (lo' := [some (.ref 0), some (.int v1), some (.int v2), some (.int (v2 + 1))]) (q := 16) rfl (Nat.le_of_ble_eq_true rfl) rfl rfl ?_
      refine lz_X7_strengthAll_16 hd v2 h _ (fun v1_6 z7 => ?_) fuel0 v1 (v2 + 1)  
      refine y_iinc (z := (v2 + 1)) (lo' := [some (.ref 0), some (.int v1_6), some (.int (v2 + 1)), some (.int z7)]) (q := 42) rfl rfl (Nat.le_of_ble_eq_true rfl) (by rw [oi_1]) rfl rfl ?_
      refine y_goto (q := 4) rfl rfl ?_
      exact lz_X7_strengthAll_4 hd  h k hk n v1_6 (v2 + 1)  (some (.int z7))
    · skip
      exact hk v1 v2 (z3) 
def f_X7_strengthAll  (h : dH) : Option (Int32) := l_X7_strengthAll_4  h (fun v1_8 => (some v1_8)) fuel0 0 0 
theorem m_X7_strengthAll {d : Nat} (hd : 2 ≤ d)  (h : dH) : dX shM d 198 [.ref 0] (dP h) (f_X7_strengthAll  h) h := by
  obtain ⟨e, rfl⟩ : ∃ e, d = e + 1 := ⟨d - 1, by omega⟩
  have hd : 1 ≤ e := by omega
  refine dX_of (mj := mj198) (lo := [some (.ref 0), none, none, none]) rfl (Nat.le_of_ble_eq_true rfl) rfl ?_
  unfold f_X7_strengthAll
  refine y_iconst (x := 0) (q := 1) rfl (by decide) rfl ?_
  refine y_istore_n (lo' := [some (.ref 0), some (.int 0), none, none]) (q := 2) rfl (Nat.le_of_ble_eq_true rfl) rfl rfl ?_
  refine y_iconst (x := 0) (q := 3) rfl (by decide) rfl ?_
  refine y_istore_n (lo' := [some (.ref 0), some (.int 0), some (.int 0), none]) (q := 4) rfl (Nat.le_of_ble_eq_true rfl) rfl rfl ?_
  refine lz_X7_strengthAll_4 hd  h _ (fun v1_8 z9 z10 => ?_) fuel0 0 0  (none)
  refine y_iload_n (q := 46) rfl rfl rfl ?_
  exact y_retP rfl (by decide) rfl rfl
def l_X7_quietest_20 (v3 : Int32) (k : Int32 → Int32 → dH → Option (Int32 × dH)) : Nat → Int32 → Int32 → Int32 → dH → Option (Int32 × dH)
  | 0, _, _, _, _ => none
  | n + 1, v4, v5, v6, h => if v6.toInt < (h 0 13).toInt then (if 0 ≤ v6.toInt ∧ v6.toInt < 8 then (if (h 6 (v6.toInt.toNat)).toInt = v3.toInt then (oI (f_X7_soundsOf v6 h) (fun r8 g9 => l_X7_quietest_20 v3 k n (v4 + 1) (v5 + r8) (v6 + 1) g9)) else (l_X7_quietest_20 v3 k n v4 v5 (v6 + 1) h)) else none) else (k v4 v5 h)
theorem lz_X7_quietest_20 {d : Nat} (hd : 44 ≤ d) (v1 : Int32) (v2 : Int32) (v3 : Int32) (k : Int32 → Int32 → dH → Option (Int32 × dH)) (hk : ∀ (v4 : Int32) (v5 : Int32) (w6 : Int32) (h : dH), dY shM d mj199 dI (k v4 v5 h) 60 [some (.ref 0), some (.int v1), some (.int v2), some (.int v3), some (.int v4), some (.int v5), some (.int w6)] [] h) : ∀ (n : Nat) (v4 : Int32) (v5 : Int32) (v6 : Int32) (h : dH), dY shM d mj199 dI (l_X7_quietest_20 v3 k n v4 v5 v6 h) 20 [some (.ref 0), some (.int v1), some (.int v2), some (.int v3), some (.int v4), some (.int v5), some (.int v6)] [] h
  | 0, _, _, _, _ => dY_none
  | n + 1, v4, v5, v6, h => by
    rw [l_X7_quietest_20]
    refine y_iload (q := 22) rfl rfl rfl ?_
    refine y_aload_n (q := 23) rfl rfl rfl ?_
    refine y_getI (q := 26) rfl rfl (by decide) atM0 rfl rfl ?_
    refine y_ge (q := 60) (q' := 29) rfl rfl rfl rfl rfl (fun c3 => ?_) (fun c4 => ?_)
    · skip
      refine y_aload_n (q := 30) rfl rfl rfl ?_
      refine y_getR (b := 6) (q := 33) rfl rfl (by decide) atM0 rfl rfl ?_
      refine y_iload (q := 35) rfl rfl rfl ?_
      refine y_guard (fun c5 => ?_)
      refine y_iald (n := 8) (N := 8) (X := v6.toInt) (K := v6.toInt.toNat) (q := 36) hbM rfl atM6 rfl rfl c5 rfl rfl ?_
      refine y_iload_n (q := 37) rfl rfl rfl ?_
      refine y_ne (q := 54) (q' := 40) rfl rfl rfl rfl rfl (fun c6 => ?_) (fun c7 => ?_)
      · skip
        refine y_iinc (z := (v4 + 1)) (lo' := [some (.ref 0), some (.int v1), some (.int v2), some (.int v3), some (.int (v4 + 1)), some (.int v5), some (.int v6)]) (q := 43) rfl rfl (Nat.le_of_ble_eq_true rfl) (by rw [oi_1]) rfl rfl ?_
        refine y_iload (q := 45) rfl rfl rfl ?_
        refine y_aload_n (q := 46) rfl rfl rfl ?_
        refine y_iload (q := 48) rfl rfl rfl ?_
        refine y_callI (I := .invokevirtual 152) (idx := 152) (KD := 1) (J := 196) (mj := mj186) (as := [.ref 0, .int v6]) (r := [.int v5]) (q := 51) rfl (fun _ _ _ _ _ _ => rfl) rfl (by decide) rfl rfl rfl rfl rfl (Nat.le_of_ble_eq_true rfl) (d_recv atM0 (by decide) (by decide)) rfl (m_X7_soundsOf (Nat.le_trans (by decide) hd) v6 h) (fun r8 g9 => ?_)
        refine y_iadd (q := 52) rfl rfl ?_
        refine y_istore (lo' := [some (.ref 0), some (.int v1), some (.int v2), some (.int v3), some (.int (v4 + 1)), some (.int (v5 + r8)), some (.int v6)]) (q := 54) rfl (Nat.le_of_ble_eq_true rfl) rfl rfl ?_
        refine y_iinc (z := (v6 + 1)) (lo' := [some (.ref 0), some (.int v1), some (.int v2), some (.int v3), some (.int (v4 + 1)), some (.int (v5 + r8)), some (.int (v6 + 1))]) (q := 57) rfl rfl (Nat.le_of_ble_eq_true rfl) (by rw [oi_1]) rfl rfl ?_
        refine y_goto (q := 20) rfl rfl ?_
        exact lz_X7_quietest_20 hd v1 v2 v3 k hk n (v4 + 1) (v5 + r8) (v6 + 1) g9 
      · skip
        refine y_iinc (z := (v6 + 1)) (lo' := [some (.ref 0), some (.int v1), some (.int v2), some (.int v3), some (.int v4), some (.int v5), some (.int (v6 + 1))]) (q := 57) rfl rfl (Nat.le_of_ble_eq_true rfl) (by rw [oi_1]) rfl rfl ?_
        refine y_goto (q := 20) rfl rfl ?_
        exact lz_X7_quietest_20 hd v1 v2 v3 k hk n v4 v5 (v6 + 1) h 
    · skip
      exact hk v4 v5 v6 h
def l_X7_quietest_6  (k : Int32 → dH → Option (Int32 × dH)) : Nat → Int32 → Int32 → Int32 → dH → Option (Int32 × dH)
  | 0, _, _, _, _ => none
  | n + 1, v1, v2, v3, h => if v3.toInt < 4 then (l_X7_quietest_20 v3  (fun v4_10 v5_11 g13 => if 0 < v4_10.toInt then (if v1.toInt = (-1) then (l_X7_quietest_6  k n v3 v5_11 (v3 + 1) g13) else (if v5_11.toInt < v2.toInt then (l_X7_quietest_6  k n v3 v5_11 (v3 + 1) g13) else (l_X7_quietest_6  k n v1 v2 (v3 + 1) g13))) else (l_X7_quietest_6  k n v1 v2 (v3 + 1) g13)) fuel0 0 0 0 h) else (k v1 h)
theorem lz_X7_quietest_6 {d : Nat} (hd : 44 ≤ d)  (k : Int32 → dH → Option (Int32 × dH)) (hk : ∀ (v1 : Int32) (w2 : Int32) (w3 : Int32) (z4 : Option Value) (z5 : Option Value) (z6 : Option Value) (h : dH), dY shM d mj199 dI (k v1 h) 87 [some (.ref 0), some (.int v1), some (.int w2), some (.int w3), z4, z5, z6] [] h) : ∀ (n : Nat) (v1 : Int32) (v2 : Int32) (v3 : Int32) (h : dH) (z4 : Option Value) (z5 : Option Value) (z6 : Option Value), dY shM d mj199 dI (l_X7_quietest_6  k n v1 v2 v3 h) 6 [some (.ref 0), some (.int v1), some (.int v2), some (.int v3), z4, z5, z6] [] h
  | 0, _, _, _, _, _, _, _ => dY_none
  | n + 1, v1, v2, v3, h, z4, z5, z6 => by
    rw [l_X7_quietest_6]
    refine y_iload_n (q := 7) rfl rfl rfl ?_
    refine y_iconst (x := 4) (q := 8) rfl (by decide) rfl ?_
    refine y_ge (q := 87) (q' := 11) rfl rfl (by decide) rfl rfl (fun c1 => ?_) (fun c2 => ?_)
    · skip
      refine y_iconst (x := 0) (q := 12) rfl (by decide) rfl ?_
      refine y_istore (lo' := [some (.ref 0), some (.int v1), some (.int v2), some (.int v3), some (.int 0), z5, z6]) (q := 14) rfl (Nat.le_of_ble_eq_true rfl) rfl rfl ?_
      refine y_iconst (x := 0) (q := 15) rfl (by decide) rfl ?_
      refine y_istore (lo' := [some (.ref 0), some (.int v1), some (.int v2), some (.int v3), some (.int 0), some (.int 0), z6]) (q := 17) rfl (Nat.le_of_ble_eq_true rfl) rfl rfl ?_
      refine y_iconst (x := 0) (q := 18) rfl (by decide) rfl ?_
      refine y_istore (lo' := [some (.ref 0), some (.int v1), some (.int v2), some (.int v3), some (.int 0), some (.int 0), some (.int 0)]) (q := 20) rfl (Nat.le_of_ble_eq_true rfl) rfl rfl ?_
      refine lz_X7_quietest_20 hd v1 v2 v3  _ (fun v4_10 v5_11 z12 g13 => ?_) fuel0 0 0 0 h 
      refine y_iload (q := 62) rfl rfl rfl ?_
      refine y_le0 (q := 81) (q' := 65) rfl rfl rfl rfl (fun c14 => ?_) (fun c15 => ?_)
      · skip
        refine y_iload_n (q := 66) rfl rfl rfl ?_
        refine y_iconst (x := (-1)) (q := 67) rfl (by decide) rfl ?_
        refine y_eq (q := 76) (q' := 70) rfl rfl (by decide) rfl rfl (fun c16 => ?_) (fun c17 => ?_)
        · skip
          refine y_iload_n (q := 77) rfl rfl rfl ?_
          refine y_istore_n (lo' := [some (.ref 0), some (.int v3), some (.int v2), some (.int v3), some (.int v4_10), some (.int v5_11), some (.int z12)]) (q := 78) rfl (Nat.le_of_ble_eq_true rfl) rfl rfl ?_
          refine y_iload (q := 80) rfl rfl rfl ?_
          refine y_istore_n (lo' := [some (.ref 0), some (.int v3), some (.int v5_11), some (.int v3), some (.int v4_10), some (.int v5_11), some (.int z12)]) (q := 81) rfl (Nat.le_of_ble_eq_true rfl) rfl rfl ?_
          refine y_iinc (z := (v3 + 1)) (lo' := [some (.ref 0), some (.int v3), some (.int v5_11), some (.int (v3 + 1)), some (.int v4_10), some (.int v5_11), some (.int z12)]) (q := 84) rfl rfl (Nat.le_of_ble_eq_true rfl) (by rw [oi_1]) rfl rfl ?_
          refine y_goto (q := 6) rfl rfl ?_
          exact lz_X7_quietest_6 hd  k hk n v3 v5_11 (v3 + 1) g13 (some (.int v4_10)) (some (.int v5_11)) (some (.int z12))
        · skip
          refine y_iload (q := 72) rfl rfl rfl ?_
          refine y_iload_n (q := 73) rfl rfl rfl ?_
          refine y_ge (q := 81) (q' := 76) rfl rfl rfl rfl rfl (fun c18 => ?_) (fun c19 => ?_)
          · skip
            refine y_iload_n (q := 77) rfl rfl rfl ?_
            refine y_istore_n (lo' := [some (.ref 0), some (.int v3), some (.int v2), some (.int v3), some (.int v4_10), some (.int v5_11), some (.int z12)]) (q := 78) rfl (Nat.le_of_ble_eq_true rfl) rfl rfl ?_
            refine y_iload (q := 80) rfl rfl rfl ?_
            refine y_istore_n (lo' := [some (.ref 0), some (.int v3), some (.int v5_11), some (.int v3), some (.int v4_10), some (.int v5_11), some (.int z12)]) (q := 81) rfl (Nat.le_of_ble_eq_true rfl) rfl rfl ?_
            refine y_iinc (z := (v3 + 1)) (lo' := [some (.ref 0), some (.int v3), some (.int v5_11), some (.int (v3 + 1)), some (.int v4_10), some (.int v5_11), some (.int z12)]) (q := 84) rfl rfl (Nat.le_of_ble_eq_true rfl) (by rw [oi_1]) rfl rfl ?_
            refine y_goto (q := 6) rfl rfl ?_
            exact lz_X7_quietest_6 hd  k hk n v3 v5_11 (v3 + 1) g13 (some (.int v4_10)) (some (.int v5_11)) (some (.int z12))
          · skip
            refine y_iinc (z := (v3 + 1)) (lo' := [some (.ref 0), some (.int v1), some (.int v2), some (.int (v3 + 1)), some (.int v4_10), some (.int v5_11), some (.int z12)]) (q := 84) rfl rfl (Nat.le_of_ble_eq_true rfl) (by rw [oi_1]) rfl rfl ?_
            refine y_goto (q := 6) rfl rfl ?_
            exact lz_X7_quietest_6 hd  k hk n v1 v2 (v3 + 1) g13 (some (.int v4_10)) (some (.int v5_11)) (some (.int z12))
      · skip
        refine y_iinc (z := (v3 + 1)) (lo' := [some (.ref 0), some (.int v1), some (.int v2), some (.int (v3 + 1)), some (.int v4_10), some (.int v5_11), some (.int z12)]) (q := 84) rfl rfl (Nat.le_of_ble_eq_true rfl) (by rw [oi_1]) rfl rfl ?_
        refine y_goto (q := 6) rfl rfl ?_
        exact lz_X7_quietest_6 hd  k hk n v1 v2 (v3 + 1) g13 (some (.int v4_10)) (some (.int v5_11)) (some (.int z12))
    · skip
      exact hk v1 v2 v3 (z4) (z5) (z6) h
def f_X7_quietest  (h : dH) : Option (Int32 × dH) := l_X7_quietest_6   (fun v1_20 g26 => some (v1_20, g26)) fuel0 (-1) 0 0 h
theorem m_X7_quietest {d : Nat} (hd : 45 ≤ d)  (h : dH) : dX shM d 199 [.ref 0] dI (f_X7_quietest  h) h := by
  obtain ⟨e, rfl⟩ : ∃ e, d = e + 1 := ⟨d - 1, by omega⟩
  have hd : 44 ≤ e := by omega
  refine dX_of (mj := mj199) (lo := [some (.ref 0), none, none, none, none, none, none]) rfl (Nat.le_of_ble_eq_true rfl) rfl ?_
  unfold f_X7_quietest
  refine y_iconst (x := (-1)) (q := 1) rfl (by decide) rfl ?_
  refine y_istore_n (lo' := [some (.ref 0), some (.int (-1)), none, none, none, none, none]) (q := 2) rfl (Nat.le_of_ble_eq_true rfl) rfl rfl ?_
  refine y_iconst (x := 0) (q := 3) rfl (by decide) rfl ?_
  refine y_istore_n (lo' := [some (.ref 0), some (.int (-1)), some (.int 0), none, none, none, none]) (q := 4) rfl (Nat.le_of_ble_eq_true rfl) rfl rfl ?_
  refine y_iconst (x := 0) (q := 5) rfl (by decide) rfl ?_
  refine y_istore_n (lo' := [some (.ref 0), some (.int (-1)), some (.int 0), some (.int 0), none, none, none]) (q := 6) rfl (Nat.le_of_ble_eq_true rfl) rfl rfl ?_
  refine lz_X7_quietest_6 hd   _ (fun v1_20 z21 z22 z23 z24 z25 g26 => ?_) fuel0 (-1) 0 0 h (none) (none) (none)
  refine y_iload_n (q := 88) rfl rfl rfl ?_
  exact y_retI rfl (by decide) rfl rfl
def f_X7_tellsOf (v1 : Int32) (h : dH) : Option (Int32 × dH) := oV (f_X7_waysAll  h) (fun g1 => if v1.toInt = 0 then (oP (f_X7_friends  g1) (fun r4 => some (r4, g1))) else (if v1.toInt = 1 then (oP (f_X7_companies  g1) (fun r7 => some (r7, g1))) else (if v1.toInt = 2 then (oP (f_X7_largest  g1) (fun r10 => some (r10, g1))) else (if v1.toInt = 3 then (oP (f_X7_strengthAll  g1) (fun r13 => some (r13, g1))) else (oP (f_X7_longest 0 g1) (fun r14 => some (r14, g1)))))))
theorem m_X7_tellsOf {d : Nat} (hd : 4 ≤ d) (v1 : Int32) (h : dH) : dX shM d 200 [.ref 0, .int v1] dI (f_X7_tellsOf v1 h) h := by
  obtain ⟨e, rfl⟩ : ∃ e, d = e + 1 := ⟨d - 1, by omega⟩
  have hd : 3 ≤ e := by omega
  refine dX_of (mj := mj200) (lo := [some (.ref 0), some (.int v1)]) rfl (Nat.le_of_ble_eq_true rfl) rfl ?_
  unfold f_X7_tellsOf
  refine y_aload_n (q := 1) rfl rfl rfl ?_
  refine y_callV (I := .invokevirtual 385) (idx := 385) (KD := 1) (J := 204) (mj := mj194) (as := [.ref 0]) (r := []) (q := 4) rfl (fun _ _ _ _ _ _ => rfl) rfl (by decide) rfl rfl rfl rfl rfl (Nat.le_of_ble_eq_true rfl) (d_recv atM0 (by decide) (by decide)) rfl (m_X7_waysAll (Nat.le_trans (by decide) hd)  h) (fun g1 => ?_)
  refine y_iload_n (q := 5) rfl rfl rfl ?_
  refine y_ne0 (q := 15) (q' := 8) rfl rfl rfl rfl (fun c2 => ?_) (fun c3 => ?_)
  · skip
    refine y_aload_n (q := 9) rfl rfl rfl ?_
    refine y_callP (I := .invokevirtual 379) (idx := 379) (KD := 1) (J := 203) (mj := mj193) (as := [.ref 0]) (r := []) (q := 12) rfl (fun _ _ _ _ _ _ => rfl) rfl (by decide) rfl rfl rfl rfl rfl (Nat.le_of_ble_eq_true rfl) (d_recv atM0 (by decide) (by decide)) rfl (m_X7_friends (Nat.le_trans (by decide) hd)  g1) (fun r4 => ?_)
    refine y_goto (q := 56) rfl rfl ?_
    exact y_retI rfl (by decide) rfl rfl
  · skip
    refine y_iload_n (q := 16) rfl rfl rfl ?_
    refine y_iconst (x := 1) (q := 17) rfl (by decide) rfl ?_
    refine y_ne (q := 27) (q' := 20) rfl rfl (by decide) rfl rfl (fun c5 => ?_) (fun c6 => ?_)
    · skip
      refine y_aload_n (q := 21) rfl rfl rfl ?_
      refine y_callP (I := .invokevirtual 388) (idx := 388) (KD := 1) (J := 205) (mj := mj195) (as := [.ref 0]) (r := []) (q := 24) rfl (fun _ _ _ _ _ _ => rfl) rfl (by decide) rfl rfl rfl rfl rfl (Nat.le_of_ble_eq_true rfl) (d_recv atM0 (by decide) (by decide)) rfl (m_X7_companies (Nat.le_trans (by decide) hd)  g1) (fun r7 => ?_)
      refine y_goto (q := 56) rfl rfl ?_
      exact y_retI rfl (by decide) rfl rfl
    · skip
      refine y_iload_n (q := 28) rfl rfl rfl ?_
      refine y_iconst (x := 2) (q := 29) rfl (by decide) rfl ?_
      refine y_ne (q := 39) (q' := 32) rfl rfl (by decide) rfl rfl (fun c8 => ?_) (fun c9 => ?_)
      · skip
        refine y_aload_n (q := 33) rfl rfl rfl ?_
        refine y_callP (I := .invokevirtual 391) (idx := 391) (KD := 1) (J := 206) (mj := mj196) (as := [.ref 0]) (r := []) (q := 36) rfl (fun _ _ _ _ _ _ => rfl) rfl (by decide) rfl rfl rfl rfl rfl (Nat.le_of_ble_eq_true rfl) (d_recv atM0 (by decide) (by decide)) rfl (m_X7_largest (Nat.le_trans (by decide) hd)  g1) (fun r10 => ?_)
        refine y_goto (q := 56) rfl rfl ?_
        exact y_retI rfl (by decide) rfl rfl
      · skip
        refine y_iload_n (q := 40) rfl rfl rfl ?_
        refine y_iconst (x := 3) (q := 41) rfl (by decide) rfl ?_
        refine y_ne (q := 51) (q' := 44) rfl rfl (by decide) rfl rfl (fun c11 => ?_) (fun c12 => ?_)
        · skip
          refine y_aload_n (q := 45) rfl rfl rfl ?_
          refine y_callP (I := .invokevirtual 394) (idx := 394) (KD := 1) (J := 208) (mj := mj198) (as := [.ref 0]) (r := []) (q := 48) rfl (fun _ _ _ _ _ _ => rfl) rfl (by decide) rfl rfl rfl rfl rfl (Nat.le_of_ble_eq_true rfl) (d_recv atM0 (by decide) (by decide)) rfl (m_X7_strengthAll (Nat.le_trans (by decide) hd)  g1) (fun r13 => ?_)
          refine y_goto (q := 56) rfl rfl ?_
          exact y_retI rfl (by decide) rfl rfl
        · skip
          refine y_aload_n (q := 52) rfl rfl rfl ?_
          refine y_iconst (x := 0) (q := 53) rfl (by decide) rfl ?_
          refine y_callP (I := .invokevirtual 397) (idx := 397) (KD := 1) (J := 207) (mj := mj197) (as := [.ref 0, .int 0]) (r := []) (q := 56) rfl (fun _ _ _ _ _ _ => rfl) rfl (by decide) rfl rfl rfl rfl rfl (Nat.le_of_ble_eq_true rfl) (d_recv atM0 (by decide) (by decide)) rfl (m_X7_longest (Nat.le_trans (by decide) hd) 0 g1) (fun r14 => ?_)
          exact y_retI rfl (by decide) rfl rfl
def f_X7_street (v1 : Int32) (h : dH) : Option (Int32 × dH) := oP (f_X7_in (v1.toInt64) 0 5) (fun r1 => if r1.toInt = 0 then (some ((-2), h)) else (if v1.toInt = 5 then (oI (f_X7_quietest  h) (fun r6 g7 => some (r6, g7))) else (oI (f_X7_tellsOf v1 h) (fun r8 g9 => some (r8, g9)))))
theorem m_X7_street {d : Nat} (hd : 46 ≤ d) (v1 : Int32) (h : dH) : dX shM d 201 [.ref 0, .int v1] dI (f_X7_street v1 h) h := by
  obtain ⟨e, rfl⟩ : ∃ e, d = e + 1 := ⟨d - 1, by omega⟩
  have hd : 45 ≤ e := by omega
  refine dX_of (mj := mj201) (lo := [some (.ref 0), some (.int v1)]) rfl (Nat.le_of_ble_eq_true rfl) rfl ?_
  unfold f_X7_street
  refine y_iload_n (q := 1) rfl rfl rfl ?_
  refine y_i2l (q := 2) rfl rfl ?_
  refine y_lconst (u := 0) (q := 3) rfl (by decide) rfl ?_
  refine y_ldc2_w (u := 5) (q := 6) rfl rfl rfl ?_
  refine y_callP (I := .invokestatic 91) (idx := 91) (KD := 0) (J := 128) (mj := mj118) (as := [.long v1.toInt64, .long 0, .long 5]) (r := []) (q := 9) rfl (fun _ _ _ _ _ _ => rfl) rfl (by decide) rfl rfl rfl rfl rfl (Nat.le_of_ble_eq_true rfl) rfl rfl (m_X7_in (Nat.le_trans (by decide) hd) (v1.toInt64) 0 5 h) (fun r1 => ?_)
  refine y_ne0 (q := 15) (q' := 12) rfl rfl rfl rfl (fun c2 => ?_) (fun c3 => ?_)
  · skip
    refine y_bipush (x := (-2)) (q := 14) rfl (by decide) rfl ?_
    exact y_retI rfl (by decide) rfl rfl
  · skip
    refine y_iload_n (q := 16) rfl rfl rfl ?_
    refine y_iconst (x := 5) (q := 17) rfl (by decide) rfl ?_
    refine y_ne (q := 27) (q' := 20) rfl rfl (by decide) rfl rfl (fun c4 => ?_) (fun c5 => ?_)
    · skip
      refine y_aload_n (q := 21) rfl rfl rfl ?_
      refine y_callI (I := .invokevirtual 400) (idx := 400) (KD := 1) (J := 209) (mj := mj199) (as := [.ref 0]) (r := []) (q := 24) rfl (fun _ _ _ _ _ _ => rfl) rfl (by decide) rfl rfl rfl rfl rfl (Nat.le_of_ble_eq_true rfl) (d_recv atM0 (by decide) (by decide)) rfl (m_X7_quietest (Nat.le_trans (by decide) hd)  h) (fun r6 g7 => ?_)
      refine y_goto (q := 32) rfl rfl ?_
      exact y_retI rfl (by decide) rfl rfl
    · skip
      refine y_aload_n (q := 28) rfl rfl rfl ?_
      refine y_iload_n (q := 29) rfl rfl rfl ?_
      refine y_callI (I := .invokevirtual 403) (idx := 403) (KD := 1) (J := 210) (mj := mj200) (as := [.ref 0, .int v1]) (r := []) (q := 32) rfl (fun _ _ _ _ _ _ => rfl) rfl (by decide) rfl rfl rfl rfl rfl (Nat.le_of_ble_eq_true rfl) (d_recv atM0 (by decide) (by decide)) rfl (m_X7_tellsOf (Nat.le_trans (by decide) hd) v1 h) (fun r8 g9 => ?_)
      exact y_retI rfl (by decide) rfl rfl
def f_X7_way (v1 : Int32) (v2 : Int32) (h : dH) : Option (Int32 × dH) := oP (f_X7_isHouse v1 h) (fun r1 => if r1.toInt = 0 then (some ((-2), h)) else (oP (f_X7_isHouse v2 h) (fun r4 => if r4.toInt = 0 then (some ((-2), h)) else (oV (f_X7_waysAll  h) (fun g7 => if 0 ≤ ((8 * v1) + v2).toInt ∧ ((8 * v1) + v2).toInt < 64 then (some ((g7 8 (((8 * v1) + v2).toInt.toNat)), g7)) else none)))))
theorem m_X7_way {d : Nat} (hd : 4 ≤ d) (v1 : Int32) (v2 : Int32) (h : dH) : dX shM d 202 [.ref 0, .int v1, .int v2] dI (f_X7_way v1 v2 h) h := by
  obtain ⟨e, rfl⟩ : ∃ e, d = e + 1 := ⟨d - 1, by omega⟩
  have hd : 3 ≤ e := by omega
  refine dX_of (mj := mj202) (lo := [some (.ref 0), some (.int v1), some (.int v2)]) rfl (Nat.le_of_ble_eq_true rfl) rfl ?_
  unfold f_X7_way
  refine y_aload_n (q := 1) rfl rfl rfl ?_
  refine y_iload_n (q := 2) rfl rfl rfl ?_
  refine y_callP (I := .invokevirtual 105) (idx := 105) (KD := 1) (J := 132) (mj := mj122) (as := [.ref 0, .int v1]) (r := []) (q := 5) rfl (fun _ _ _ _ _ _ => rfl) rfl (by decide) rfl rfl rfl rfl rfl (Nat.le_of_ble_eq_true rfl) (d_recv atM0 (by decide) (by decide)) rfl (m_X7_isHouse (Nat.le_trans (by decide) hd) v1 h) (fun r1 => ?_)
  refine y_eq0 (q := 16) (q' := 8) rfl rfl rfl rfl (fun c2 => ?_) (fun c3 => ?_)
  · skip
    refine y_bipush (x := (-2)) (q := 18) rfl (by decide) rfl ?_
    exact y_retI rfl (by decide) rfl rfl
  · skip
    refine y_aload_n (q := 9) rfl rfl rfl ?_
    refine y_iload_n (q := 10) rfl rfl rfl ?_
    refine y_callP (I := .invokevirtual 105) (idx := 105) (KD := 1) (J := 132) (mj := mj122) (as := [.ref 0, .int v2]) (r := []) (q := 13) rfl (fun _ _ _ _ _ _ => rfl) rfl (by decide) rfl rfl rfl rfl rfl (Nat.le_of_ble_eq_true rfl) (d_recv atM0 (by decide) (by decide)) rfl (m_X7_isHouse (Nat.le_trans (by decide) hd) v2 h) (fun r4 => ?_)
    refine y_ne0 (q := 19) (q' := 16) rfl rfl rfl rfl (fun c5 => ?_) (fun c6 => ?_)
    · skip
      refine y_bipush (x := (-2)) (q := 18) rfl (by decide) rfl ?_
      exact y_retI rfl (by decide) rfl rfl
    · skip
      refine y_aload_n (q := 20) rfl rfl rfl ?_
      refine y_callV (I := .invokevirtual 385) (idx := 385) (KD := 1) (J := 204) (mj := mj194) (as := [.ref 0]) (r := []) (q := 23) rfl (fun _ _ _ _ _ _ => rfl) rfl (by decide) rfl rfl rfl rfl rfl (Nat.le_of_ble_eq_true rfl) (d_recv atM0 (by decide) (by decide)) rfl (m_X7_waysAll (Nat.le_trans (by decide) hd)  h) (fun g7 => ?_)
      refine y_aload_n (q := 24) rfl rfl rfl ?_
      refine y_getR (b := 8) (q := 27) rfl rfl (by decide) atM0 rfl rfl ?_
      refine y_bipush (x := 8) (q := 29) rfl (by decide) rfl ?_
      refine y_iload_n (q := 30) rfl rfl rfl ?_
      refine y_imul (q := 31) rfl rfl ?_
      refine y_iload_n (q := 32) rfl rfl rfl ?_
      refine y_iadd (q := 33) rfl rfl ?_
      refine y_guard (fun c8 => ?_)
      refine y_iald (n := 64) (N := 64) (X := ((8 * v1) + v2).toInt) (K := ((8 * v1) + v2).toInt.toNat) (q := 34) hbM rfl atM8 rfl rfl c8 rfl rfl ?_
      exact y_retI rfl (by decide) rfl rfl
def l_X7_laysAside_2  (k : dH → Option (dH)) : Nat → Int32 → dH → Option (dH)
  | 0, _, _ => none
  | n + 1, v1, h => if v1.toInt < 64 then (if 0 ≤ v1.toInt ∧ v1.toInt < 64 then (if 0 ≤ v1.toInt ∧ v1.toInt < 64 then (oH (dU h 9 (v1.toInt.toNat) (h 7 (v1.toInt.toNat))) (fun g4 => l_X7_laysAside_2  k n (v1 + 1) g4)) else none) else none) else (k  h)
theorem lz_X7_laysAside_2 {d : Nat} (hd : 0 ≤ d)  (k : dH → Option (dH)) (hk : ∀ (w1 : Int32) (h : dH), dY shM d mj203 dV (k h) 26 [some (.ref 0), some (.int w1)] [] h) : ∀ (n : Nat) (v1 : Int32) (h : dH), dY shM d mj203 dV (l_X7_laysAside_2  k n v1 h) 2 [some (.ref 0), some (.int v1)] [] h
  | 0, _, _ => dY_none
  | n + 1, v1, h => by
    rw [l_X7_laysAside_2]
    refine y_iload_n (q := 3) rfl rfl rfl ?_
    refine y_bipush (x := 64) (q := 5) rfl (by decide) rfl ?_
    refine y_ge (q := 26) (q' := 8) rfl rfl (by decide) rfl rfl (fun c1 => ?_) (fun c2 => ?_)
    · skip
      refine y_aload_n (q := 9) rfl rfl rfl ?_
      refine y_getR (b := 9) (q := 12) rfl rfl (by decide) atM0 rfl rfl ?_
      refine y_iload_n (q := 13) rfl rfl rfl ?_
      refine y_aload_n (q := 14) rfl rfl rfl ?_
      refine y_getR (b := 7) (q := 17) rfl rfl (by decide) atM0 rfl rfl ?_
      refine y_iload_n (q := 18) rfl rfl rfl ?_
      refine y_guard (fun c3 => ?_)
      refine y_iald (n := 64) (N := 64) (X := v1.toInt) (K := v1.toInt.toNat) (q := 19) hbM rfl atM7 rfl rfl c3 rfl rfl ?_
      refine y_guard (fun c5 => ?_)
      refine y_iast (n := 64) (N := 64) (X := v1.toInt) (K := v1.toInt.toNat) (q := 20) rfl atM9 rfl rfl c5 rfl rfl (fun g4 => ?_)
      refine y_iinc (z := (v1 + 1)) (lo' := [some (.ref 0), some (.int (v1 + 1))]) (q := 23) rfl rfl (Nat.le_of_ble_eq_true rfl) (by rw [oi_1]) rfl rfl ?_
      refine y_goto (q := 2) rfl rfl ?_
      exact lz_X7_laysAside_2 hd  k hk n (v1 + 1) g4 
    · skip
      exact hk  v1 h
def f_X7_laysAside  (h : dH) : Option (dH) := l_X7_laysAside_2   (fun g7 => oH (dU g7 0 34 (g7 0 7)) (fun g8 => some g8)) fuel0 0 h
theorem m_X7_laysAside {d : Nat} (hd : 1 ≤ d)  (h : dH) : dX shM d 203 [.ref 0] dV (f_X7_laysAside  h) h := by
  obtain ⟨e, rfl⟩ : ∃ e, d = e + 1 := ⟨d - 1, by omega⟩
  have hd : 0 ≤ e := by omega
  refine dX_of (mj := mj203) (lo := [some (.ref 0), none]) rfl (Nat.le_of_ble_eq_true rfl) rfl ?_
  unfold f_X7_laysAside
  refine y_iconst (x := 0) (q := 1) rfl (by decide) rfl ?_
  refine y_istore_n (lo' := [some (.ref 0), some (.int 0)]) (q := 2) rfl (Nat.le_of_ble_eq_true rfl) rfl rfl ?_
  refine lz_X7_laysAside_2 hd   _ (fun z6 g7 => ?_) fuel0 0 h 
  refine y_aload_n (q := 27) rfl rfl rfl ?_
  refine y_aload_n (q := 28) rfl rfl rfl ?_
  refine y_getI (q := 31) rfl rfl (by decide) atM0 rfl rfl ?_
  refine y_putI (q := 34) rfl rfl (by decide) atM0 rfl rfl rfl rfl (fun g8 => ?_)
  exact y_retV rfl rfl rfl
def l_X7_laysBack_2  (k : dH → Option (dH)) : Nat → Int32 → dH → Option (dH)
  | 0, _, _ => none
  | n + 1, v1, h => if v1.toInt < 64 then (if 0 ≤ v1.toInt ∧ v1.toInt < 64 then (if 0 ≤ v1.toInt ∧ v1.toInt < 64 then (oH (dU h 7 (v1.toInt.toNat) (h 9 (v1.toInt.toNat))) (fun g4 => l_X7_laysBack_2  k n (v1 + 1) g4)) else none) else none) else (k  h)
theorem lz_X7_laysBack_2 {d : Nat} (hd : 0 ≤ d)  (k : dH → Option (dH)) (hk : ∀ (w1 : Int32) (h : dH), dY shM d mj204 dV (k h) 26 [some (.ref 0), some (.int w1)] [] h) : ∀ (n : Nat) (v1 : Int32) (h : dH), dY shM d mj204 dV (l_X7_laysBack_2  k n v1 h) 2 [some (.ref 0), some (.int v1)] [] h
  | 0, _, _ => dY_none
  | n + 1, v1, h => by
    rw [l_X7_laysBack_2]
    refine y_iload_n (q := 3) rfl rfl rfl ?_
    refine y_bipush (x := 64) (q := 5) rfl (by decide) rfl ?_
    refine y_ge (q := 26) (q' := 8) rfl rfl (by decide) rfl rfl (fun c1 => ?_) (fun c2 => ?_)
    · skip
      refine y_aload_n (q := 9) rfl rfl rfl ?_
      refine y_getR (b := 7) (q := 12) rfl rfl (by decide) atM0 rfl rfl ?_
      refine y_iload_n (q := 13) rfl rfl rfl ?_
      refine y_aload_n (q := 14) rfl rfl rfl ?_
      refine y_getR (b := 9) (q := 17) rfl rfl (by decide) atM0 rfl rfl ?_
      refine y_iload_n (q := 18) rfl rfl rfl ?_
      refine y_guard (fun c3 => ?_)
      refine y_iald (n := 64) (N := 64) (X := v1.toInt) (K := v1.toInt.toNat) (q := 19) hbM rfl atM9 rfl rfl c3 rfl rfl ?_
      refine y_guard (fun c5 => ?_)
      refine y_iast (n := 64) (N := 64) (X := v1.toInt) (K := v1.toInt.toNat) (q := 20) rfl atM7 rfl rfl c5 rfl rfl (fun g4 => ?_)
      refine y_iinc (z := (v1 + 1)) (lo' := [some (.ref 0), some (.int (v1 + 1))]) (q := 23) rfl rfl (Nat.le_of_ble_eq_true rfl) (by rw [oi_1]) rfl rfl ?_
      refine y_goto (q := 2) rfl rfl ?_
      exact lz_X7_laysBack_2 hd  k hk n (v1 + 1) g4 
    · skip
      exact hk  v1 h
def f_X7_laysBack  (h : dH) : Option (dH) := l_X7_laysBack_2   (fun g7 => oH (dU g7 0 7 (g7 0 34)) (fun g8 => some g8)) fuel0 0 h
theorem m_X7_laysBack {d : Nat} (hd : 1 ≤ d)  (h : dH) : dX shM d 204 [.ref 0] dV (f_X7_laysBack  h) h := by
  obtain ⟨e, rfl⟩ : ∃ e, d = e + 1 := ⟨d - 1, by omega⟩
  have hd : 0 ≤ e := by omega
  refine dX_of (mj := mj204) (lo := [some (.ref 0), none]) rfl (Nat.le_of_ble_eq_true rfl) rfl ?_
  unfold f_X7_laysBack
  refine y_iconst (x := 0) (q := 1) rfl (by decide) rfl ?_
  refine y_istore_n (lo' := [some (.ref 0), some (.int 0)]) (q := 2) rfl (Nat.le_of_ble_eq_true rfl) rfl rfl ?_
  refine lz_X7_laysBack_2 hd   _ (fun z6 g7 => ?_) fuel0 0 h 
  refine y_aload_n (q := 27) rfl rfl rfl ?_
  refine y_aload_n (q := 28) rfl rfl rfl ?_
  refine y_getI (q := 31) rfl rfl (by decide) atM0 rfl rfl ?_
  refine y_putI (q := 34) rfl rfl (by decide) atM0 rfl rfl rfl rfl (fun g8 => ?_)
  exact y_retV rfl rfl rfl
def l_X7_lives_2 (v1 : Int32) (k : dH → Option (dH)) : Nat → Int32 → dH → Option (dH)
  | 0, _, _ => none
  | n + 1, v2, h => if v2.toInt < v1.toInt then (oV (f_X7_feasts  h) (fun g3 => oV (f_X7_fades  g3) (fun g4 => l_X7_lives_2 v1 k n (v2 + 1) g4))) else (k  h)
theorem lz_X7_lives_2 {d : Nat} (hd : 45 ≤ d) (v1 : Int32) (k : dH → Option (dH)) (hk : ∀ (w2 : Int32) (h : dH), dY shM d mj205 dV (k h) 21 [some (.ref 0), some (.int v1), some (.int w2)] [] h) : ∀ (n : Nat) (v2 : Int32) (h : dH), dY shM d mj205 dV (l_X7_lives_2 v1 k n v2 h) 2 [some (.ref 0), some (.int v1), some (.int v2)] [] h
  | 0, _, _ => dY_none
  | n + 1, v2, h => by
    rw [l_X7_lives_2]
    refine y_iload_n (q := 3) rfl rfl rfl ?_
    refine y_iload_n (q := 4) rfl rfl rfl ?_
    refine y_ge (q := 21) (q' := 7) rfl rfl rfl rfl rfl (fun c1 => ?_) (fun c2 => ?_)
    · skip
      refine y_aload_n (q := 8) rfl rfl rfl ?_
      refine y_callV (I := .invokevirtual 376) (idx := 376) (KD := 1) (J := 198) (mj := mj188) (as := [.ref 0]) (r := []) (q := 11) rfl (fun _ _ _ _ _ _ => rfl) rfl (by decide) rfl rfl rfl rfl rfl (Nat.le_of_ble_eq_true rfl) (d_recv atM0 (by decide) (by decide)) rfl (m_X7_feasts (Nat.le_trans (by decide) hd)  h) (fun g3 => ?_)
      refine y_aload_n (q := 12) rfl rfl rfl ?_
      refine y_callV (I := .invokevirtual 382) (idx := 382) (KD := 1) (J := 199) (mj := mj189) (as := [.ref 0]) (r := []) (q := 15) rfl (fun _ _ _ _ _ _ => rfl) rfl (by decide) rfl rfl rfl rfl rfl (Nat.le_of_ble_eq_true rfl) (d_recv atM0 (by decide) (by decide)) rfl (m_X7_fades (Nat.le_trans (by decide) hd)  g3) (fun g4 => ?_)
      refine y_iinc (z := (v2 + 1)) (lo' := [some (.ref 0), some (.int v1), some (.int (v2 + 1))]) (q := 18) rfl rfl (Nat.le_of_ble_eq_true rfl) (by rw [oi_1]) rfl rfl ?_
      refine y_goto (q := 2) rfl rfl ?_
      exact lz_X7_lives_2 hd v1 k hk n (v2 + 1) g4 
    · skip
      exact hk  v2 h
def f_X7_lives (v1 : Int32) (h : dH) : Option (dH) := l_X7_lives_2 v1  (fun g6 => some g6) fuel0 0 h
theorem m_X7_lives {d : Nat} (hd : 46 ≤ d) (v1 : Int32) (h : dH) : dX shM d 205 [.ref 0, .int v1] dV (f_X7_lives v1 h) h := by
  obtain ⟨e, rfl⟩ : ∃ e, d = e + 1 := ⟨d - 1, by omega⟩
  have hd : 45 ≤ e := by omega
  refine dX_of (mj := mj205) (lo := [some (.ref 0), some (.int v1), none]) rfl (Nat.le_of_ble_eq_true rfl) rfl ?_
  unfold f_X7_lives
  refine y_iconst (x := 0) (q := 1) rfl (by decide) rfl ?_
  refine y_istore_n (lo' := [some (.ref 0), some (.int v1), some (.int 0)]) (q := 2) rfl (Nat.le_of_ble_eq_true rfl) rfl rfl ?_
  refine lz_X7_lives_2 hd v1  _ (fun z5 g6 => ?_) fuel0 0 h 
  exact y_retV rfl rfl rfl
def f_X7_run (v1 : Int32) (v2 : Int32) (h : dH) : Option (Int32 × dH) := oP (f_X7_in (v1.toInt64) 0 20) (fun r1 => if r1.toInt = 0 then (some ((-2), h)) else (oP (f_X7_in (v2.toInt64) 0 4) (fun r4 => if r4.toInt = 0 then (some ((-2), h)) else (oV (f_X7_laysAside  h) (fun g7 => oV (f_X7_lives v1 g7) (fun g8 => oI (f_X7_tellsOf v2 g8) (fun r9 g10 => oV (f_X7_laysBack  g10) (fun g11 => some (r9, g11)))))))))
theorem m_X7_run {d : Nat} (hd : 47 ≤ d) (v1 : Int32) (v2 : Int32) (h : dH) : dX shM d 206 [.ref 0, .int v1, .int v2] dI (f_X7_run v1 v2 h) h := by
  obtain ⟨e, rfl⟩ : ∃ e, d = e + 1 := ⟨d - 1, by omega⟩
  have hd : 46 ≤ e := by omega
  refine dX_of (mj := mj206) (lo := [some (.ref 0), some (.int v1), some (.int v2), none]) rfl (Nat.le_of_ble_eq_true rfl) rfl ?_
  unfold f_X7_run
  refine y_iload_n (q := 1) rfl rfl rfl ?_
  refine y_i2l (q := 2) rfl rfl ?_
  refine y_lconst (u := 0) (q := 3) rfl (by decide) rfl ?_
  refine y_ldc2_w (u := 20) (q := 6) rfl rfl rfl ?_
  refine y_callP (I := .invokestatic 91) (idx := 91) (KD := 0) (J := 128) (mj := mj118) (as := [.long v1.toInt64, .long 0, .long 20]) (r := []) (q := 9) rfl (fun _ _ _ _ _ _ => rfl) rfl (by decide) rfl rfl rfl rfl rfl (Nat.le_of_ble_eq_true rfl) rfl rfl (m_X7_in (Nat.le_trans (by decide) hd) (v1.toInt64) 0 20 h) (fun r1 => ?_)
  refine y_eq0 (q := 24) (q' := 12) rfl rfl rfl rfl (fun c2 => ?_) (fun c3 => ?_)
  · skip
    refine y_bipush (x := (-2)) (q := 26) rfl (by decide) rfl ?_
    exact y_retI rfl (by decide) rfl rfl
  · skip
    refine y_iload_n (q := 13) rfl rfl rfl ?_
    refine y_i2l (q := 14) rfl rfl ?_
    refine y_lconst (u := 0) (q := 15) rfl (by decide) rfl ?_
    refine y_ldc2_w (u := 4) (q := 18) rfl rfl rfl ?_
    refine y_callP (I := .invokestatic 91) (idx := 91) (KD := 0) (J := 128) (mj := mj118) (as := [.long v2.toInt64, .long 0, .long 4]) (r := []) (q := 21) rfl (fun _ _ _ _ _ _ => rfl) rfl (by decide) rfl rfl rfl rfl rfl (Nat.le_of_ble_eq_true rfl) rfl rfl (m_X7_in (Nat.le_trans (by decide) hd) (v2.toInt64) 0 4 h) (fun r4 => ?_)
    refine y_ne0 (q := 27) (q' := 24) rfl rfl rfl rfl (fun c5 => ?_) (fun c6 => ?_)
    · skip
      refine y_bipush (x := (-2)) (q := 26) rfl (by decide) rfl ?_
      exact y_retI rfl (by decide) rfl rfl
    · skip
      refine y_aload_n (q := 28) rfl rfl rfl ?_
      refine y_callV (I := .invokevirtual 413) (idx := 413) (KD := 1) (J := 213) (mj := mj203) (as := [.ref 0]) (r := []) (q := 31) rfl (fun _ _ _ _ _ _ => rfl) rfl (by decide) rfl rfl rfl rfl rfl (Nat.le_of_ble_eq_true rfl) (d_recv atM0 (by decide) (by decide)) rfl (m_X7_laysAside (Nat.le_trans (by decide) hd)  h) (fun g7 => ?_)
      refine y_aload_n (q := 32) rfl rfl rfl ?_
      refine y_iload_n (q := 33) rfl rfl rfl ?_
      refine y_callV (I := .invokevirtual 416) (idx := 416) (KD := 1) (J := 215) (mj := mj205) (as := [.ref 0, .int v1]) (r := []) (q := 36) rfl (fun _ _ _ _ _ _ => rfl) rfl (by decide) rfl rfl rfl rfl rfl (Nat.le_of_ble_eq_true rfl) (d_recv atM0 (by decide) (by decide)) rfl (m_X7_lives (Nat.le_trans (by decide) hd) v1 g7) (fun g8 => ?_)
      refine y_aload_n (q := 37) rfl rfl rfl ?_
      refine y_iload_n (q := 38) rfl rfl rfl ?_
      refine y_callI (I := .invokevirtual 403) (idx := 403) (KD := 1) (J := 210) (mj := mj200) (as := [.ref 0, .int v2]) (r := []) (q := 41) rfl (fun _ _ _ _ _ _ => rfl) rfl (by decide) rfl rfl rfl rfl rfl (Nat.le_of_ble_eq_true rfl) (d_recv atM0 (by decide) (by decide)) rfl (m_X7_tellsOf (Nat.le_trans (by decide) hd) v2 g8) (fun r9 g10 => ?_)
      refine y_istore_n (lo' := [some (.ref 0), some (.int v1), some (.int v2), some (.int r9)]) (q := 42) rfl (Nat.le_of_ble_eq_true rfl) rfl rfl ?_
      refine y_aload_n (q := 43) rfl rfl rfl ?_
      refine y_callV (I := .invokevirtual 420) (idx := 420) (KD := 1) (J := 214) (mj := mj204) (as := [.ref 0]) (r := []) (q := 46) rfl (fun _ _ _ _ _ _ => rfl) rfl (by decide) rfl rfl rfl rfl rfl (Nat.le_of_ble_eq_true rfl) (d_recv atM0 (by decide) (by decide)) rfl (m_X7_laysBack (Nat.le_trans (by decide) hd)  g10) (fun g11 => ?_)
      refine y_iload_n (q := 47) rfl rfl rfl ?_
      exact y_retI rfl (by decide) rfl rfl
def f_X7_friendsBehind (v1 : Int32) (h : dH) : Option (Int32 × dH) := oV (f_X7_laysAside  h) (fun g1 => oV (f_X7_lives v1 g1) (fun g2 => oP (f_X7_friends  g2) (fun r3 => oV (f_X7_laysBack  g2) (fun g4 => some (r3, g4)))))
theorem m_X7_friendsBehind {d : Nat} (hd : 47 ≤ d) (v1 : Int32) (h : dH) : dX shM d 207 [.ref 0, .int v1] dI (f_X7_friendsBehind v1 h) h := by
  obtain ⟨e, rfl⟩ : ∃ e, d = e + 1 := ⟨d - 1, by omega⟩
  have hd : 46 ≤ e := by omega
  refine dX_of (mj := mj207) (lo := [some (.ref 0), some (.int v1), none]) rfl (Nat.le_of_ble_eq_true rfl) rfl ?_
  unfold f_X7_friendsBehind
  refine y_aload_n (q := 1) rfl rfl rfl ?_
  refine y_callV (I := .invokevirtual 413) (idx := 413) (KD := 1) (J := 213) (mj := mj203) (as := [.ref 0]) (r := []) (q := 4) rfl (fun _ _ _ _ _ _ => rfl) rfl (by decide) rfl rfl rfl rfl rfl (Nat.le_of_ble_eq_true rfl) (d_recv atM0 (by decide) (by decide)) rfl (m_X7_laysAside (Nat.le_trans (by decide) hd)  h) (fun g1 => ?_)
  refine y_aload_n (q := 5) rfl rfl rfl ?_
  refine y_iload_n (q := 6) rfl rfl rfl ?_
  refine y_callV (I := .invokevirtual 416) (idx := 416) (KD := 1) (J := 215) (mj := mj205) (as := [.ref 0, .int v1]) (r := []) (q := 9) rfl (fun _ _ _ _ _ _ => rfl) rfl (by decide) rfl rfl rfl rfl rfl (Nat.le_of_ble_eq_true rfl) (d_recv atM0 (by decide) (by decide)) rfl (m_X7_lives (Nat.le_trans (by decide) hd) v1 g1) (fun g2 => ?_)
  refine y_aload_n (q := 10) rfl rfl rfl ?_
  refine y_callP (I := .invokevirtual 379) (idx := 379) (KD := 1) (J := 203) (mj := mj193) (as := [.ref 0]) (r := []) (q := 13) rfl (fun _ _ _ _ _ _ => rfl) rfl (by decide) rfl rfl rfl rfl rfl (Nat.le_of_ble_eq_true rfl) (d_recv atM0 (by decide) (by decide)) rfl (m_X7_friends (Nat.le_trans (by decide) hd)  g2) (fun r3 => ?_)
  refine y_istore_n (lo' := [some (.ref 0), some (.int v1), some (.int r3)]) (q := 14) rfl (Nat.le_of_ble_eq_true rfl) rfl rfl ?_
  refine y_aload_n (q := 15) rfl rfl rfl ?_
  refine y_callV (I := .invokevirtual 420) (idx := 420) (KD := 1) (J := 214) (mj := mj204) (as := [.ref 0]) (r := []) (q := 18) rfl (fun _ _ _ _ _ _ => rfl) rfl (by decide) rfl rfl rfl rfl rfl (Nat.le_of_ble_eq_true rfl) (d_recv atM0 (by decide) (by decide)) rfl (m_X7_laysBack (Nat.le_trans (by decide) hd)  g2) (fun g4 => ?_)
  refine y_iload_n (q := 19) rfl rfl rfl ?_
  exact y_retI rfl (by decide) rfl rfl
def l_X7_takes_21 (v1 : Int32) (k : Int32 → dH → Option (Int32 × dH)) : Nat → Int32 → dH → Option (Int32 × dH)
  | 0, _, _ => none
  | n + 1, v2, h => if 20 < v2.toInt then (k v2 h) else (oP (f_X7_friends  h) (fun r7 => if r7.toInt < v1.toInt then (oV (f_X7_lives 1 h) (fun g10 => l_X7_takes_21 v1 k n (v2 + 1) g10)) else (k v2 h)))
theorem lz_X7_takes_21 {d : Nat} (hd : 46 ≤ d) (v1 : Int32) (k : Int32 → dH → Option (Int32 × dH)) (hk : ∀ (v2 : Int32) (h : dH), dY shM d mj208 dI (k v2 h) 46 [some (.ref 0), some (.int v1), some (.int v2)] [] h) : ∀ (n : Nat) (v2 : Int32) (h : dH), dY shM d mj208 dI (l_X7_takes_21 v1 k n v2 h) 21 [some (.ref 0), some (.int v1), some (.int v2)] [] h
  | 0, _, _ => dY_none
  | n + 1, v2, h => by
    rw [l_X7_takes_21]
    refine y_iload_n (q := 22) rfl rfl rfl ?_
    refine y_bipush (x := 20) (q := 24) rfl (by decide) rfl ?_
    refine y_gt (q := 46) (q' := 27) rfl rfl (by decide) rfl rfl (fun c5 => ?_) (fun c6 => ?_)
    · skip
      exact hk v2  h
    · skip
      refine y_aload_n (q := 28) rfl rfl rfl ?_
      refine y_callP (I := .invokevirtual 379) (idx := 379) (KD := 1) (J := 203) (mj := mj193) (as := [.ref 0]) (r := []) (q := 31) rfl (fun _ _ _ _ _ _ => rfl) rfl (by decide) rfl rfl rfl rfl rfl (Nat.le_of_ble_eq_true rfl) (d_recv atM0 (by decide) (by decide)) rfl (m_X7_friends (Nat.le_trans (by decide) hd)  h) (fun r7 => ?_)
      refine y_iload_n (q := 32) rfl rfl rfl ?_
      refine y_ge (q := 46) (q' := 35) rfl rfl rfl rfl rfl (fun c8 => ?_) (fun c9 => ?_)
      · skip
        refine y_aload_n (q := 36) rfl rfl rfl ?_
        refine y_iconst (x := 1) (q := 37) rfl (by decide) rfl ?_
        refine y_callV (I := .invokevirtual 416) (idx := 416) (KD := 1) (J := 215) (mj := mj205) (as := [.ref 0, .int 1]) (r := []) (q := 40) rfl (fun _ _ _ _ _ _ => rfl) rfl (by decide) rfl rfl rfl rfl rfl (Nat.le_of_ble_eq_true rfl) (d_recv atM0 (by decide) (by decide)) rfl (m_X7_lives (Nat.le_trans (by decide) hd) 1 h) (fun g10 => ?_)
        refine y_iinc (z := (v2 + 1)) (lo' := [some (.ref 0), some (.int v1), some (.int (v2 + 1))]) (q := 43) rfl rfl (Nat.le_of_ble_eq_true rfl) (by rw [oi_1]) rfl rfl ?_
        refine y_goto (q := 21) rfl rfl ?_
        exact lz_X7_takes_21 hd v1 k hk n (v2 + 1) g10 
      · skip
        exact hk v2  h
def f_X7_takes (v1 : Int32) (h : dH) : Option (Int32 × dH) := oP (f_X7_in (v1.toInt64) 0 28) (fun r1 => if r1.toInt = 0 then (some ((-2), h)) else (oV (f_X7_laysAside  h) (fun g4 => l_X7_takes_21 v1  (fun v2_11 g12 => oV (f_X7_laysBack  g12) (fun g13 => if 20 < v2_11.toInt then (some ((-1), g13)) else (some (v2_11, g13)))) fuel0 0 g4)))
theorem m_X7_takes {d : Nat} (hd : 47 ≤ d) (v1 : Int32) (h : dH) : dX shM d 208 [.ref 0, .int v1] dI (f_X7_takes v1 h) h := by
  obtain ⟨e, rfl⟩ : ∃ e, d = e + 1 := ⟨d - 1, by omega⟩
  have hd : 46 ≤ e := by omega
  refine dX_of (mj := mj208) (lo := [some (.ref 0), some (.int v1), none]) rfl (Nat.le_of_ble_eq_true rfl) rfl ?_
  unfold f_X7_takes
  refine y_iload_n (q := 1) rfl rfl rfl ?_
  refine y_i2l (q := 2) rfl rfl ?_
  refine y_lconst (u := 0) (q := 3) rfl (by decide) rfl ?_
  refine y_ldc2_w (u := 28) (q := 6) rfl rfl rfl ?_
  refine y_callP (I := .invokestatic 91) (idx := 91) (KD := 0) (J := 128) (mj := mj118) (as := [.long v1.toInt64, .long 0, .long 28]) (r := []) (q := 9) rfl (fun _ _ _ _ _ _ => rfl) rfl (by decide) rfl rfl rfl rfl rfl (Nat.le_of_ble_eq_true rfl) rfl rfl (m_X7_in (Nat.le_trans (by decide) hd) (v1.toInt64) 0 28 h) (fun r1 => ?_)
  refine y_ne0 (q := 15) (q' := 12) rfl rfl rfl rfl (fun c2 => ?_) (fun c3 => ?_)
  · skip
    refine y_bipush (x := (-2)) (q := 14) rfl (by decide) rfl ?_
    exact y_retI rfl (by decide) rfl rfl
  · skip
    refine y_aload_n (q := 16) rfl rfl rfl ?_
    refine y_callV (I := .invokevirtual 413) (idx := 413) (KD := 1) (J := 213) (mj := mj203) (as := [.ref 0]) (r := []) (q := 19) rfl (fun _ _ _ _ _ _ => rfl) rfl (by decide) rfl rfl rfl rfl rfl (Nat.le_of_ble_eq_true rfl) (d_recv atM0 (by decide) (by decide)) rfl (m_X7_laysAside (Nat.le_trans (by decide) hd)  h) (fun g4 => ?_)
    refine y_iconst (x := 0) (q := 20) rfl (by decide) rfl ?_
    refine y_istore_n (lo' := [some (.ref 0), some (.int v1), some (.int 0)]) (q := 21) rfl (Nat.le_of_ble_eq_true rfl) rfl rfl ?_
    refine lz_X7_takes_21 hd v1  _ (fun v2_11 g12 => ?_) fuel0 0 g4 
    refine y_aload_n (q := 47) rfl rfl rfl ?_
    refine y_callV (I := .invokevirtual 420) (idx := 420) (KD := 1) (J := 214) (mj := mj204) (as := [.ref 0]) (r := []) (q := 50) rfl (fun _ _ _ _ _ _ => rfl) rfl (by decide) rfl rfl rfl rfl rfl (Nat.le_of_ble_eq_true rfl) (d_recv atM0 (by decide) (by decide)) rfl (m_X7_laysBack (Nat.le_trans (by decide) hd)  g12) (fun g13 => ?_)
    refine y_iload_n (q := 51) rfl rfl rfl ?_
    refine y_bipush (x := 20) (q := 53) rfl (by decide) rfl ?_
    refine y_le (q := 60) (q' := 56) rfl rfl (by decide) rfl rfl (fun c14 => ?_) (fun c15 => ?_)
    · skip
      refine y_iconst (x := (-1)) (q := 57) rfl (by decide) rfl ?_
      refine y_goto (q := 61) rfl rfl ?_
      exact y_retI rfl (by decide) rfl rfl
    · skip
      refine y_iload_n (q := 61) rfl rfl rfl ?_
      exact y_retI rfl (by decide) rfl rfl
end
end
