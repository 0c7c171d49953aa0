section
/-! X7_in, X7_within, X7_isHouse, X7_isValue, X7_lays, X7_strengthOf, X7_knows, X7_seatsOf, X7_apart, X7_fail, X7_byteAt, X7_isLetter, X7_isWord, X7_next, X7_isSign, X7_name, X7_opens, X7_atom5, X7_term5, X7_added5 (by program) -/
noncomputable section
def f_X7_in (v0 : Int64) (v2 : Int64) (v4 : Int64) : Option (Int32) := if (dlcmp v0 v2).toInt < 0 then ((some 0)) else (if 0 < (dlcmp v0 v4).toInt then ((some 0)) else ((some 1)))
theorem m_X7_in {d : Nat} (hd : 1 ≤ d) (v0 : Int64) (v2 : Int64) (v4 : Int64) (h : dH) : dX shM d 118 [.long v0, .long v2, .long v4] (dP h) (f_X7_in v0 v2 v4) h := by
  obtain ⟨e, rfl⟩ : ∃ e, d = e + 1 := ⟨d - 1, by omega⟩
  have hd : 0 ≤ e := by omega
  refine dX_of (mj := mj118) (lo := [some (.long v0), none, some (.long v2), none, some (.long v4), none]) rfl (Nat.le_of_ble_eq_true rfl) rfl ?_
  unfold f_X7_in
  refine y_lload_n (q := 1) rfl rfl rfl ?_
  refine y_lload_n (q := 2) rfl rfl rfl ?_
  refine y_lcmp (q := 3) rfl rfl ?_
  refine y_lt0 (q := 17) (q' := 6) rfl rfl rfl rfl (fun c1 => ?_) (fun c2 => ?_)
  · skip
    refine y_iconst (x := 0) (q := 18) rfl (by decide) rfl ?_
    exact y_retP rfl (by decide) rfl rfl
  · skip
    refine y_lload_n (q := 7) rfl rfl rfl ?_
    refine y_lload (q := 9) rfl rfl rfl ?_
    refine y_lcmp (q := 10) rfl rfl ?_
    refine y_gt0 (q := 17) (q' := 13) rfl rfl rfl rfl (fun c3 => ?_) (fun c4 => ?_)
    · skip
      refine y_iconst (x := 0) (q := 18) rfl (by decide) rfl ?_
      exact y_retP rfl (by decide) rfl rfl
    · skip
      refine y_iconst (x := 1) (q := 14) rfl (by decide) rfl ?_
      refine y_goto (q := 18) rfl rfl ?_
      exact y_retP rfl (by decide) rfl rfl
def f_X7_within (v0 : Int32) (v1 : Int32) (v2 : Int32) : Option (Int32) := if v0.toInt < v1.toInt then ((some v1)) else (if v2.toInt < v0.toInt then ((some v2)) else ((some v0)))
theorem m_X7_within {d : Nat} (hd : 1 ≤ d) (v0 : Int32) (v1 : Int32) (v2 : Int32) (h : dH) : dX shM d 119 [.int v0, .int v1, .int v2] (dP h) (f_X7_within v0 v1 v2) h := by
  obtain ⟨e, rfl⟩ : ∃ e, d = e + 1 := ⟨d - 1, by omega⟩
  have hd : 0 ≤ e := by omega
  refine dX_of (mj := mj119) (lo := [some (.int v0), some (.int v1), some (.int v2)]) rfl (Nat.le_of_ble_eq_true rfl) rfl ?_
  unfold f_X7_within
  refine y_iload_n (q := 1) rfl rfl rfl ?_
  refine y_iload_n (q := 2) rfl rfl rfl ?_
  refine y_ge (q := 9) (q' := 5) rfl rfl rfl rfl rfl (fun c1 => ?_) (fun c2 => ?_)
  · skip
    refine y_iload_n (q := 6) rfl rfl rfl ?_
    refine y_goto (q := 19) rfl rfl ?_
    exact y_retP rfl (by decide) rfl rfl
  · skip
    refine y_iload_n (q := 10) rfl rfl rfl ?_
    refine y_iload_n (q := 11) rfl rfl rfl ?_
    refine y_le (q := 18) (q' := 14) rfl rfl rfl rfl rfl (fun c3 => ?_) (fun c4 => ?_)
    · skip
      refine y_iload_n (q := 15) rfl rfl rfl ?_
      refine y_goto (q := 19) rfl rfl ?_
      exact y_retP rfl (by decide) rfl rfl
    · skip
      refine y_iload_n (q := 19) rfl rfl rfl ?_
      exact y_retP rfl (by decide) rfl rfl
def f_X7_isHouse (v1 : Int32) (h : dH) : Option (Int32) := oP (f_X7_in (v1.toInt64) 0 (((h 0 13) - 1).toInt64)) (fun r1 => if r1 = 0 ∨ r1 = 1 then (some r1) else none)
theorem m_X7_isHouse {d : Nat} (hd : 2 ≤ d) (v1 : Int32) (h : dH) : dX shM d 122 [.ref 0, .int v1] (dP h) (f_X7_isHouse v1 h) h := by
  obtain ⟨e, rfl⟩ : ∃ e, d = e + 1 := ⟨d - 1, by omega⟩
  have hd : 1 ≤ e := by omega
  refine dX_of (mj := mj122) (lo := [some (.ref 0), some (.int v1)]) rfl (Nat.le_of_ble_eq_true rfl) rfl ?_
  unfold f_X7_isHouse
  refine y_iload_n (q := 1) rfl rfl rfl ?_
  refine y_i2l (q := 2) rfl rfl ?_
  refine y_lconst (u := 0) (q := 3) rfl (by decide) rfl ?_
  refine y_aload_n (q := 4) rfl rfl rfl ?_
  refine y_getI (q := 7) rfl rfl (by decide) atM0 rfl rfl ?_
  refine y_iconst (x := 1) (q := 8) rfl (by decide) rfl ?_
  refine y_isub (q := 9) rfl rfl ?_
  refine y_i2l (q := 10) rfl rfl ?_
  refine y_callP (I := .invokestatic 91) (idx := 91) (KD := 0) (J := 128) (mj := mj118) (as := [.long v1.toInt64, .long 0, .long ((h 0 13) - 1).toInt64]) (r := []) (q := 13) rfl (fun _ _ _ _ _ _ => rfl) rfl (by decide) rfl rfl rfl rfl rfl (Nat.le_of_ble_eq_true rfl) rfl rfl (m_X7_in (Nat.le_trans (by decide) hd) (v1.toInt64) 0 (((h 0 13) - 1).toInt64) h) (fun r1 => ?_)
  refine y_guard (fun c2 => ?_)
  exact y_retP rfl (by decide) rfl (d_bool c2)
def f_X7_isValue (v0 : Int32) (v1 : Int32) : Option (Int32) := if v0.toInt = 3 then (oP (f_X7_in (v1.toInt64) (-1) 3) (fun r3 => if r3 = 0 ∨ r3 = 1 then (some r3) else none)) else (if v0.toInt = 1 then (if v0.toInt = 0 then (oP (f_X7_in (v1.toInt64) 1 999) (fun r9 => if r9 = 0 ∨ r9 = 1 then (some r9) else none)) else (if v0.toInt = 1 then (oP (f_X7_in (v1.toInt64) 1 99) (fun r13 => if r13 = 0 ∨ r13 = 1 then (some r13) else none)) else (oP (f_X7_in (v1.toInt64) 1 9) (fun r15 => if r15 = 0 ∨ r15 = 1 then (some r15) else none)))) else (if v0.toInt = 0 then (oP (f_X7_in (v1.toInt64) 0 999) (fun r19 => if r19 = 0 ∨ r19 = 1 then (some r19) else none)) else (if v0.toInt = 1 then (oP (f_X7_in (v1.toInt64) 0 99) (fun r23 => if r23 = 0 ∨ r23 = 1 then (some r23) else none)) else (oP (f_X7_in (v1.toInt64) 0 9) (fun r25 => if r25 = 0 ∨ r25 = 1 then (some r25) else none)))))
theorem m_X7_isValue {d : Nat} (hd : 2 ≤ d) (v0 : Int32) (v1 : Int32) (h : dH) : dX shM d 123 [.int v0, .int v1] (dP h) (f_X7_isValue v0 v1) h := by
  obtain ⟨e, rfl⟩ : ∃ e, d = e + 1 := ⟨d - 1, by omega⟩
  have hd : 1 ≤ e := by omega
  refine dX_of (mj := mj123) (lo := [some (.int v0), some (.int v1)]) rfl (Nat.le_of_ble_eq_true rfl) rfl ?_
  unfold f_X7_isValue
  refine y_iload_n (q := 1) rfl rfl rfl ?_
  refine y_iconst (x := 3) (q := 2) rfl (by decide) rfl ?_
  refine y_ne (q := 19) (q' := 5) rfl rfl (by decide) rfl rfl (fun c1 => ?_) (fun c2 => ?_)
  · skip
    refine y_iload_n (q := 6) rfl rfl rfl ?_
    refine y_i2l (q := 7) rfl rfl ?_
    refine y_ldc2_w (u := (-1)) (q := 10) rfl rfl rfl ?_
    refine y_ldc2_w (u := 3) (q := 13) rfl rfl rfl ?_
    refine y_callP (I := .invokestatic 91) (idx := 91) (KD := 0) (J := 128) (mj := mj118) (as := [.long v1.toInt64, .long (-1), .long 3]) (r := []) (q := 16) rfl (fun _ _ _ _ _ _ => rfl) rfl (by decide) rfl rfl rfl rfl rfl (Nat.le_of_ble_eq_true rfl) rfl rfl (m_X7_in (Nat.le_trans (by decide) hd) (v1.toInt64) (-1) 3 h) (fun r3 => ?_)
    refine y_goto (q := 58) rfl rfl ?_
    refine y_guard (fun c4 => ?_)
    exact y_retP rfl (by decide) rfl (d_bool c4)
  · skip
    refine y_iload_n (q := 20) rfl rfl rfl ?_
    refine y_i2l (q := 21) rfl rfl ?_
    refine y_iload_n (q := 22) rfl rfl rfl ?_
    refine y_iconst (x := 1) (q := 23) rfl (by decide) rfl ?_
    refine y_ne (q := 30) (q' := 26) rfl rfl (by decide) rfl rfl (fun c5 => ?_) (fun c6 => ?_)
    · skip
      refine y_lconst (u := 1) (q := 27) rfl (by decide) rfl ?_
      refine y_goto (q := 31) rfl rfl ?_
      refine y_iload_n (q := 32) rfl rfl rfl ?_
      refine y_ne0 (q := 41) (q' := 35) rfl rfl rfl rfl (fun c7 => ?_) (fun c8 => ?_)
      · skip
        refine y_ldc2_w (u := 999) (q := 38) rfl rfl rfl ?_
        refine y_goto (q := 55) rfl rfl ?_
        refine y_callP (I := .invokestatic 91) (idx := 91) (KD := 0) (J := 128) (mj := mj118) (as := [.long v1.toInt64, .long 1, .long 999]) (r := []) (q := 58) rfl (fun _ _ _ _ _ _ => rfl) rfl (by decide) rfl rfl rfl rfl rfl (Nat.le_of_ble_eq_true rfl) rfl rfl (m_X7_in (Nat.le_trans (by decide) hd) (v1.toInt64) 1 999 h) (fun r9 => ?_)
        refine y_guard (fun c10 => ?_)
        exact y_retP rfl (by decide) rfl (d_bool c10)
      · skip
        refine y_iload_n (q := 42) rfl rfl rfl ?_
        refine y_iconst (x := 1) (q := 43) rfl (by decide) rfl ?_
        refine y_ne (q := 52) (q' := 46) rfl rfl (by decide) rfl rfl (fun c11 => ?_) (fun c12 => ?_)
        · skip
          refine y_ldc2_w (u := 99) (q := 49) rfl rfl rfl ?_
          refine y_goto (q := 55) rfl rfl ?_
          refine y_callP (I := .invokestatic 91) (idx := 91) (KD := 0) (J := 128) (mj := mj118) (as := [.long v1.toInt64, .long 1, .long 99]) (r := []) (q := 58) rfl (fun _ _ _ _ _ _ => rfl) rfl (by decide) rfl rfl rfl rfl rfl (Nat.le_of_ble_eq_true rfl) rfl rfl (m_X7_in (Nat.le_trans (by decide) hd) (v1.toInt64) 1 99 h) (fun r13 => ?_)
          refine y_guard (fun c14 => ?_)
          exact y_retP rfl (by decide) rfl (d_bool c14)
        · skip
          refine y_ldc2_w (u := 9) (q := 55) rfl rfl rfl ?_
          refine y_callP (I := .invokestatic 91) (idx := 91) (KD := 0) (J := 128) (mj := mj118) (as := [.long v1.toInt64, .long 1, .long 9]) (r := []) (q := 58) rfl (fun _ _ _ _ _ _ => rfl) rfl (by decide) rfl rfl rfl rfl rfl (Nat.le_of_ble_eq_true rfl) rfl rfl (m_X7_in (Nat.le_trans (by decide) hd) (v1.toInt64) 1 9 h) (fun r15 => ?_)
          refine y_guard (fun c16 => ?_)
          exact y_retP rfl (by decide) rfl (d_bool c16)
    · skip
      refine y_lconst (u := 0) (q := 31) rfl (by decide) rfl ?_
      refine y_iload_n (q := 32) rfl rfl rfl ?_
      refine y_ne0 (q := 41) (q' := 35) rfl rfl rfl rfl (fun c17 => ?_) (fun c18 => ?_)
      · skip
        refine y_ldc2_w (u := 999) (q := 38) rfl rfl rfl ?_
        refine y_goto (q := 55) rfl rfl ?_
        refine y_callP (I := .invokestatic 91) (idx := 91) (KD := 0) (J := 128) (mj := mj118) (as := [.long v1.toInt64, .long 0, .long 999]) (r := []) (q := 58) rfl (fun _ _ _ _ _ _ => rfl) rfl (by decide) rfl rfl rfl rfl rfl (Nat.le_of_ble_eq_true rfl) rfl rfl (m_X7_in (Nat.le_trans (by decide) hd) (v1.toInt64) 0 999 h) (fun r19 => ?_)
        refine y_guard (fun c20 => ?_)
        exact y_retP rfl (by decide) rfl (d_bool c20)
      · skip
        refine y_iload_n (q := 42) rfl rfl rfl ?_
        refine y_iconst (x := 1) (q := 43) rfl (by decide) rfl ?_
        refine y_ne (q := 52) (q' := 46) rfl rfl (by decide) rfl rfl (fun c21 => ?_) (fun c22 => ?_)
        · skip
          refine y_ldc2_w (u := 99) (q := 49) rfl rfl rfl ?_
          refine y_goto (q := 55) rfl rfl ?_
          refine y_callP (I := .invokestatic 91) (idx := 91) (KD := 0) (J := 128) (mj := mj118) (as := [.long v1.toInt64, .long 0, .long 99]) (r := []) (q := 58) rfl (fun _ _ _ _ _ _ => rfl) rfl (by decide) rfl rfl rfl rfl rfl (Nat.le_of_ble_eq_true rfl) rfl rfl (m_X7_in (Nat.le_trans (by decide) hd) (v1.toInt64) 0 99 h) (fun r23 => ?_)
          refine y_guard (fun c24 => ?_)
          exact y_retP rfl (by decide) rfl (d_bool c24)
        · skip
          refine y_ldc2_w (u := 9) (q := 55) rfl rfl rfl ?_
          refine y_callP (I := .invokestatic 91) (idx := 91) (KD := 0) (J := 128) (mj := mj118) (as := [.long v1.toInt64, .long 0, .long 9]) (r := []) (q := 58) rfl (fun _ _ _ _ _ _ => rfl) rfl (by decide) rfl rfl rfl rfl rfl (Nat.le_of_ble_eq_true rfl) rfl rfl (m_X7_in (Nat.le_trans (by decide) hd) (v1.toInt64) 0 9 h) (fun r25 => ?_)
          refine y_guard (fun c26 => ?_)
          exact y_retP rfl (by decide) rfl (d_bool c26)
def f_X7_lays (v1 : Int32) (v2 : Int32) (v3 : Int32) (h : dH) : Option (dH) := if v1.toInt = 0 then (oH (dU h 0 7 v3) (fun g3 => some g3)) else (if v1.toInt = 1 then (oH (dU h 0 8 v3) (fun g6 => some g6)) else (if v1.toInt = 2 then (if 0 ≤ v2.toInt ∧ v2.toInt < 8 then (oH (dU h 5 (v2.toInt.toNat) v3) (fun g9 => some g9)) else none) else (if v1.toInt = 3 then (if 0 ≤ v2.toInt ∧ v2.toInt < 8 then (oH (dU h 6 (v2.toInt.toNat) v3) (fun g13 => some g13)) else none) else (if v1.toInt = 4 then (if 0 ≤ v2.toInt ∧ v2.toInt < 8 then (oH (dU h 4 (v2.toInt.toNat) v3) (fun g17 => some g17)) else none) else (oH (dU h 0 4 v3) (fun g19 => some g19))))))
theorem m_X7_lays {d : Nat} (hd : 1 ≤ d) (v1 : Int32) (v2 : Int32) (v3 : Int32) (h : dH) : dX shM d 125 [.ref 0, .int v1, .int v2, .int v3] dV (f_X7_lays v1 v2 v3 h) h := by
  obtain ⟨e, rfl⟩ : ∃ e, d = e + 1 := ⟨d - 1, by omega⟩
  have hd : 0 ≤ e := by omega
  refine dX_of (mj := mj125) (lo := [some (.ref 0), some (.int v1), some (.int v2), some (.int v3)]) rfl (Nat.le_of_ble_eq_true rfl) rfl ?_
  unfold f_X7_lays
  refine y_iload_n (q := 1) rfl rfl rfl ?_
  refine y_ne0 (q := 12) (q' := 4) rfl rfl rfl rfl (fun c1 => ?_) (fun c2 => ?_)
  · skip
    refine y_aload_n (q := 5) rfl rfl rfl ?_
    refine y_iload_n (q := 6) rfl rfl rfl ?_
    refine y_putI (q := 9) rfl rfl (by decide) atM0 rfl rfl rfl rfl (fun g3 => ?_)
    refine y_goto (q := 75) rfl rfl ?_
    exact y_retV rfl rfl rfl
  · skip
    refine y_iload_n (q := 13) rfl rfl rfl ?_
    refine y_iconst (x := 1) (q := 14) rfl (by decide) rfl ?_
    refine y_ne (q := 25) (q' := 17) rfl rfl (by decide) rfl rfl (fun c4 => ?_) (fun c5 => ?_)
    · skip
      refine y_aload_n (q := 18) rfl rfl rfl ?_
      refine y_iload_n (q := 19) rfl rfl rfl ?_
      refine y_putI (q := 22) rfl rfl (by decide) atM0 rfl rfl rfl rfl (fun g6 => ?_)
      refine y_goto (q := 75) rfl rfl ?_
      exact y_retV rfl rfl rfl
    · skip
      refine y_iload_n (q := 26) rfl rfl rfl ?_
      refine y_iconst (x := 2) (q := 27) rfl (by decide) rfl ?_
      refine y_ne (q := 40) (q' := 30) rfl rfl (by decide) rfl rfl (fun c7 => ?_) (fun c8 => ?_)
      · skip
        refine y_aload_n (q := 31) rfl rfl rfl ?_
        refine y_getR (b := 5) (q := 34) rfl rfl (by decide) atM0 rfl rfl ?_
        refine y_iload_n (q := 35) rfl rfl rfl ?_
        refine y_iload_n (q := 36) rfl rfl rfl ?_
        refine y_guard (fun c10 => ?_)
        refine y_iast (n := 8) (N := 8) (X := v2.toInt) (K := v2.toInt.toNat) (q := 37) rfl atM5 rfl rfl c10 rfl rfl (fun g9 => ?_)
        refine y_goto (q := 75) rfl rfl ?_
        exact y_retV rfl rfl rfl
      · skip
        refine y_iload_n (q := 41) rfl rfl rfl ?_
        refine y_iconst (x := 3) (q := 42) rfl (by decide) rfl ?_
        refine y_ne (q := 55) (q' := 45) rfl rfl (by decide) rfl rfl (fun c11 => ?_) (fun c12 => ?_)
        · skip
          refine y_aload_n (q := 46) rfl rfl rfl ?_
          refine y_getR (b := 6) (q := 49) rfl rfl (by decide) atM0 rfl rfl ?_
          refine y_iload_n (q := 50) rfl rfl rfl ?_
          refine y_iload_n (q := 51) rfl rfl rfl ?_
          refine y_guard (fun c14 => ?_)
          refine y_iast (n := 8) (N := 8) (X := v2.toInt) (K := v2.toInt.toNat) (q := 52) rfl atM6 rfl rfl c14 rfl rfl (fun g13 => ?_)
          refine y_goto (q := 75) rfl rfl ?_
          exact y_retV rfl rfl rfl
        · skip
          refine y_iload_n (q := 56) rfl rfl rfl ?_
          refine y_iconst (x := 4) (q := 57) rfl (by decide) rfl ?_
          refine y_ne (q := 70) (q' := 60) rfl rfl (by decide) rfl rfl (fun c15 => ?_) (fun c16 => ?_)
          · skip
            refine y_aload_n (q := 61) rfl rfl rfl ?_
            refine y_getR (b := 4) (q := 64) rfl rfl (by decide) atM0 rfl rfl ?_
            refine y_iload_n (q := 65) rfl rfl rfl ?_
            refine y_iload_n (q := 66) rfl rfl rfl ?_
            refine y_guard (fun c18 => ?_)
            refine y_iast (n := 8) (N := 8) (X := v2.toInt) (K := v2.toInt.toNat) (q := 67) rfl atM4 rfl rfl c18 rfl rfl (fun g17 => ?_)
            refine y_goto (q := 75) rfl rfl ?_
            exact y_retV rfl rfl rfl
          · skip
            refine y_aload_n (q := 71) rfl rfl rfl ?_
            refine y_iload_n (q := 72) rfl rfl rfl ?_
            refine y_putI (q := 75) rfl rfl (by decide) atM0 rfl rfl rfl rfl (fun g19 => ?_)
            exact y_retV rfl rfl rfl
def f_X7_strengthOf (v1 : Int32) (v2 : Int32) (h : dH) : Option (Int32) := if 0 ≤ ((8 * v1) + v2).toInt ∧ ((8 * v1) + v2).toInt < 64 then ((some (h 7 (((8 * v1) + v2).toInt.toNat)))) else none
theorem m_X7_strengthOf {d : Nat} (hd : 1 ≤ d) (v1 : Int32) (v2 : Int32) (h : dH) : dX shM d 126 [.ref 0, .int v1, .int v2] (dP h) (f_X7_strengthOf v1 v2 h) h := by
  obtain ⟨e, rfl⟩ : ∃ e, d = e + 1 := ⟨d - 1, by omega⟩
  have hd : 0 ≤ e := by omega
  refine dX_of (mj := mj126) (lo := [some (.ref 0), some (.int v1), some (.int v2)]) rfl (Nat.le_of_ble_eq_true rfl) rfl ?_
  unfold f_X7_strengthOf
  refine y_aload_n (q := 1) rfl rfl rfl ?_
  refine y_getR (b := 7) (q := 4) rfl rfl (by decide) atM0 rfl rfl ?_
  refine y_bipush (x := 8) (q := 6) rfl (by decide) rfl ?_
  refine y_iload_n (q := 7) rfl rfl rfl ?_
  refine y_imul (q := 8) rfl rfl ?_
  refine y_iload_n (q := 9) rfl rfl rfl ?_
  refine y_iadd (q := 10) rfl rfl ?_
  refine y_guard (fun c1 => ?_)
  refine y_iald (n := 64) (N := 64) (X := ((8 * v1) + v2).toInt) (K := ((8 * v1) + v2).toInt.toNat) (q := 11) hbM rfl atM7 rfl rfl c1 rfl rfl ?_
  exact y_retP rfl (by decide) rfl rfl
def f_X7_knows (v1 : Int32) (v2 : Int32) (h : dH) : Option (Int32) := if v1.toInt = v2.toInt then ((some 0)) else (if v1.toInt = (h 0 31).toInt then ((some 0)) else (if v2.toInt = (h 0 31).toInt then ((some 0)) else (oP (f_X7_strengthOf v1 v2 h) (fun r7 => if r7.toInt < (h 0 8).toInt then (if v1.toInt = (h 0 29).toInt then (if v2.toInt = (h 0 30).toInt then ((some 1)) else (if v1.toInt = (h 0 30).toInt then (if v2.toInt = (h 0 29).toInt then ((some 1)) else ((some 0))) else ((some 0)))) else (if v1.toInt = (h 0 30).toInt then (if v2.toInt = (h 0 29).toInt then ((some 1)) else ((some 0))) else ((some 0)))) else ((some 1))))))
theorem m_X7_knows {d : Nat} (hd : 2 ≤ d) (v1 : Int32) (v2 : Int32) (h : dH) : dX shM d 192 [.ref 0, .int v1, .int v2] (dP h) (f_X7_knows v1 v2 h) h := by
  obtain ⟨e, rfl⟩ : ∃ e, d = e + 1 := ⟨d - 1, by omega⟩
  have hd : 1 ≤ e := by omega
  refine dX_of (mj := mj192) (lo := [some (.ref 0), some (.int v1), some (.int v2)]) rfl (Nat.le_of_ble_eq_true rfl) rfl ?_
  unfold f_X7_knows
  refine y_iload_n (q := 1) rfl rfl rfl ?_
  refine y_iload_n (q := 2) rfl rfl rfl ?_
  refine y_eq (q := 21) (q' := 5) rfl rfl rfl rfl rfl (fun c1 => ?_) (fun c2 => ?_)
  · skip
    refine y_iconst (x := 0) (q := 22) rfl (by decide) rfl ?_
    exact y_retP rfl (by decide) rfl rfl
  · skip
    refine y_iload_n (q := 6) rfl rfl rfl ?_
    refine y_aload_n (q := 7) rfl rfl rfl ?_
    refine y_getI (q := 10) rfl rfl (by decide) atM0 rfl rfl ?_
    refine y_eq (q := 21) (q' := 13) rfl rfl rfl rfl rfl (fun c3 => ?_) (fun c4 => ?_)
    · skip
      refine y_iconst (x := 0) (q := 22) rfl (by decide) rfl ?_
      exact y_retP rfl (by decide) rfl rfl
    · skip
      refine y_iload_n (q := 14) rfl rfl rfl ?_
      refine y_aload_n (q := 15) rfl rfl rfl ?_
      refine y_getI (q := 18) rfl rfl (by decide) atM0 rfl rfl ?_
      refine y_ne (q := 23) (q' := 21) rfl rfl rfl rfl rfl (fun c5 => ?_) (fun c6 => ?_)
      · skip
        refine y_iconst (x := 0) (q := 22) rfl (by decide) rfl ?_
        exact y_retP rfl (by decide) rfl rfl
      · skip
        refine y_aload_n (q := 24) rfl rfl rfl ?_
        refine y_iload_n (q := 25) rfl rfl rfl ?_
        refine y_iload_n (q := 26) rfl rfl rfl ?_
        refine y_callP (I := .invokevirtual 139) (idx := 139) (KD := 1) (J := 136) (mj := mj126) (as := [.ref 0, .int v1, .int v2]) (r := []) (q := 29) rfl (fun _ _ _ _ _ _ => rfl) rfl (by decide) rfl rfl rfl rfl rfl (Nat.le_of_ble_eq_true rfl) (d_recv atM0 (by decide) (by decide)) rfl (m_X7_strengthOf (Nat.le_trans (by decide) hd) v1 v2 h) (fun r7 => ?_)
        refine y_aload_n (q := 30) rfl rfl rfl ?_
        refine y_getI (q := 33) rfl rfl (by decide) atM0 rfl rfl ?_
        refine y_ge (q := 68) (q' := 36) rfl rfl rfl rfl rfl (fun c8 => ?_) (fun c9 => ?_)
        · skip
          refine y_iload_n (q := 37) rfl rfl rfl ?_
          refine y_aload_n (q := 38) rfl rfl rfl ?_
          refine y_getI (q := 41) rfl rfl (by decide) atM0 rfl rfl ?_
          refine y_ne (q := 52) (q' := 44) rfl rfl rfl rfl rfl (fun c10 => ?_) (fun c11 => ?_)
          · skip
            refine y_iload_n (q := 45) rfl rfl rfl ?_
            refine y_aload_n (q := 46) rfl rfl rfl ?_
            refine y_getI (q := 49) rfl rfl (by decide) atM0 rfl rfl ?_
            refine y_eq (q := 68) (q' := 52) rfl rfl rfl rfl rfl (fun c12 => ?_) (fun c13 => ?_)
            · skip
              refine y_iconst (x := 1) (q := 69) rfl (by decide) rfl ?_
              refine y_goto (q := 73) rfl rfl ?_
              exact y_retP rfl (by decide) rfl rfl
            · skip
              refine y_iload_n (q := 53) rfl rfl rfl ?_
              refine y_aload_n (q := 54) rfl rfl rfl ?_
              refine y_getI (q := 57) rfl rfl (by decide) atM0 rfl rfl ?_
              refine y_ne (q := 72) (q' := 60) rfl rfl rfl rfl rfl (fun c14 => ?_) (fun c15 => ?_)
              · skip
                refine y_iload_n (q := 61) rfl rfl rfl ?_
                refine y_aload_n (q := 62) rfl rfl rfl ?_
                refine y_getI (q := 65) rfl rfl (by decide) atM0 rfl rfl ?_
                refine y_ne (q := 72) (q' := 68) rfl rfl rfl rfl rfl (fun c16 => ?_) (fun c17 => ?_)
                · skip
                  refine y_iconst (x := 1) (q := 69) rfl (by decide) rfl ?_
                  refine y_goto (q := 73) rfl rfl ?_
                  exact y_retP rfl (by decide) rfl rfl
                · skip
                  refine y_iconst (x := 0) (q := 73) rfl (by decide) rfl ?_
                  exact y_retP rfl (by decide) rfl rfl
              · skip
                refine y_iconst (x := 0) (q := 73) rfl (by decide) rfl ?_
                exact y_retP rfl (by decide) rfl rfl
          · skip
            refine y_iload_n (q := 53) rfl rfl rfl ?_
            refine y_aload_n (q := 54) rfl rfl rfl ?_
            refine y_getI (q := 57) rfl rfl (by decide) atM0 rfl rfl ?_
            refine y_ne (q := 72) (q' := 60) rfl rfl rfl rfl rfl (fun c18 => ?_) (fun c19 => ?_)
            · skip
              refine y_iload_n (q := 61) rfl rfl rfl ?_
              refine y_aload_n (q := 62) rfl rfl rfl ?_
              refine y_getI (q := 65) rfl rfl (by decide) atM0 rfl rfl ?_
              refine y_ne (q := 72) (q' := 68) rfl rfl rfl rfl rfl (fun c20 => ?_) (fun c21 => ?_)
              · skip
                refine y_iconst (x := 1) (q := 69) rfl (by decide) rfl ?_
                refine y_goto (q := 73) rfl rfl ?_
                exact y_retP rfl (by decide) rfl rfl
              · skip
                refine y_iconst (x := 0) (q := 73) rfl (by decide) rfl ?_
                exact y_retP rfl (by decide) rfl rfl
            · skip
              refine y_iconst (x := 0) (q := 73) rfl (by decide) rfl ?_
              exact y_retP rfl (by decide) rfl rfl
        · skip
          refine y_iconst (x := 1) (q := 69) rfl (by decide) rfl ?_
          refine y_goto (q := 73) rfl rfl ?_
          exact y_retP rfl (by decide) rfl rfl
def l_X7_seatsOf_4 (v1 : Int32) (h : dH) (k : Int32 → Option (Int32)) : Nat → Int32 → Int32 → Option (Int32)
  | 0, _, _ => none
  | n + 1, v2, v3 => if v3.toInt < (h 0 13).toInt then (if 0 ≤ v1.toInt ∧ v1.toInt < 8 then (if (h 6 (v1.toInt.toNat)).toInt = (-1) then (l_X7_seatsOf_4 v1 h k n (v2 + 0) (v3 + 1) ) else (if 0 ≤ v3.toInt ∧ v3.toInt < 8 then (if 0 ≤ v1.toInt ∧ v1.toInt < 8 then (if (h 6 (v3.toInt.toNat)).toInt = (h 6 (v1.toInt.toNat)).toInt then (l_X7_seatsOf_4 v1 h k n (v2 + 1) (v3 + 1) ) else (l_X7_seatsOf_4 v1 h k n (v2 + 0) (v3 + 1) )) else none) else none)) else none) else (k v2 )
theorem lz_X7_seatsOf_4 {d : Nat} (hd : 0 ≤ d) (v1 : Int32) (h : dH) (k : Int32 → Option (Int32)) (hk : ∀ (v2 : Int32) (w3 : Int32), dY shM d mj132 (dP h) (k v2) 51 [some (.ref 0), some (.int v1), some (.int v2), some (.int w3)] [] h) : ∀ (n : Nat) (v2 : Int32) (v3 : Int32), dY shM d mj132 (dP h) (l_X7_seatsOf_4 v1 h k n v2 v3) 4 [some (.ref 0), some (.int v1), some (.int v2), some (.int v3)] [] h
  | 0, _, _ => dY_none
  | n + 1, v2, v3 => by
    rw [l_X7_seatsOf_4]
    refine y_iload_n (q := 5) rfl rfl rfl ?_
    refine y_aload_n (q := 6) rfl rfl rfl ?_
    refine y_getI (q := 9) rfl rfl (by decide) atM0 rfl rfl ?_
    refine y_ge (q := 51) (q' := 12) rfl rfl rfl rfl rfl (fun c1 => ?_) (fun c2 => ?_)
    · skip
      refine y_iload_n (q := 13) rfl rfl rfl ?_
      refine y_aload_n (q := 14) rfl rfl rfl ?_
      refine y_getR (b := 6) (q := 17) rfl rfl (by decide) atM0 rfl rfl ?_
      refine y_iload_n (q := 18) rfl rfl rfl ?_
      refine y_guard (fun c3 => ?_)
      refine y_iald (n := 8) (N := 8) (X := v1.toInt) (K := v1.toInt.toNat) (q := 19) hbM rfl atM6 rfl rfl c3 rfl rfl ?_
      refine y_iconst (x := (-1)) (q := 20) rfl (by decide) rfl ?_
      refine y_eq (q := 42) (q' := 23) rfl rfl (by decide) rfl rfl (fun c4 => ?_) (fun c5 => ?_)
      · skip
        refine y_iconst (x := 0) (q := 43) rfl (by decide) rfl ?_
        refine y_iadd (q := 44) rfl rfl ?_
        refine y_istore_n (lo' := [some (.ref 0), some (.int v1), some (.int (v2 + 0)), some (.int v3)]) (q := 45) rfl (Nat.le_of_ble_eq_true rfl) rfl rfl ?_
        refine y_iinc (z := (v3 + 1)) (lo' := [some (.ref 0), some (.int v1), some (.int (v2 + 0)), some (.int (v3 + 1))]) (q := 48) rfl rfl (Nat.le_of_ble_eq_true rfl) (by rw [oi_1]) rfl rfl ?_
        refine y_goto (q := 4) rfl rfl ?_
        exact lz_X7_seatsOf_4 hd v1 h k hk n (v2 + 0) (v3 + 1)  
      · skip
        refine y_aload_n (q := 24) rfl rfl rfl ?_
        refine y_getR (b := 6) (q := 27) rfl rfl (by decide) atM0 rfl rfl ?_
        refine y_iload_n (q := 28) rfl rfl rfl ?_
        refine y_guard (fun c6 => ?_)
        refine y_iald (n := 8) (N := 8) (X := v3.toInt) (K := v3.toInt.toNat) (q := 29) hbM rfl atM6 rfl rfl c6 rfl rfl ?_
        refine y_aload_n (q := 30) rfl rfl rfl ?_
        refine y_getR (b := 6) (q := 33) rfl rfl (by decide) atM0 rfl rfl ?_
        refine y_iload_n (q := 34) rfl rfl rfl ?_
        refine y_guard (fun c7 => ?_)
        refine y_iald (n := 8) (N := 8) (X := v1.toInt) (K := v1.toInt.toNat) (q := 35) hbM rfl atM6 rfl rfl c7 rfl rfl ?_
        refine y_ne (q := 42) (q' := 38) rfl rfl rfl rfl rfl (fun c8 => ?_) (fun c9 => ?_)
        · skip
          refine y_iconst (x := 1) (q := 39) rfl (by decide) rfl ?_
          refine y_goto (q := 43) rfl rfl ?_
          refine y_iadd (q := 44) rfl rfl ?_
          refine y_istore_n (lo' := [some (.ref 0), some (.int v1), some (.int (v2 + 1)), some (.int v3)]) (q := 45) rfl (Nat.le_of_ble_eq_true rfl) rfl rfl ?_
          refine y_iinc (z := (v3 + 1)) (lo' := [some (.ref 0), some (.int v1), some (.int (v2 + 1)), some (.int (v3 + 1))]) (q := 48) rfl rfl (Nat.le_of_ble_eq_true rfl) (by rw [oi_1]) rfl rfl ?_
          refine y_goto (q := 4) rfl rfl ?_
          exact lz_X7_seatsOf_4 hd v1 h k hk n (v2 + 1) (v3 + 1)  
        · skip
          refine y_iconst (x := 0) (q := 43) rfl (by decide) rfl ?_
          refine y_iadd (q := 44) rfl rfl ?_
          refine y_istore_n (lo' := [some (.ref 0), some (.int v1), some (.int (v2 + 0)), some (.int v3)]) (q := 45) rfl (Nat.le_of_ble_eq_true rfl) rfl rfl ?_
          refine y_iinc (z := (v3 + 1)) (lo' := [some (.ref 0), some (.int v1), some (.int (v2 + 0)), some (.int (v3 + 1))]) (q := 48) rfl rfl (Nat.le_of_ble_eq_true rfl) (by rw [oi_1]) rfl rfl ?_
          refine y_goto (q := 4) rfl rfl ?_
          exact lz_X7_seatsOf_4 hd v1 h k hk n (v2 + 0) (v3 + 1)  
    · skip
      exact hk v2 v3 
def f_X7_seatsOf (v1 : Int32) (h : dH) : Option (Int32) := l_X7_seatsOf_4 v1 h (fun v2_10 => (some v2_10)) fuel0 0 0 
theorem m_X7_seatsOf {d : Nat} (hd : 1 ≤ d) (v1 : Int32) (h : dH) : dX shM d 132 [.ref 0, .int v1] (dP h) (f_X7_seatsOf v1 h) h := by
  obtain ⟨e, rfl⟩ : ∃ e, d = e + 1 := ⟨d - 1, by omega⟩
  have hd : 0 ≤ e := by omega
  refine dX_of (mj := mj132) (lo := [some (.ref 0), some (.int v1), none, none]) rfl (Nat.le_of_ble_eq_true rfl) rfl ?_
  unfold f_X7_seatsOf
  refine y_iconst (x := 0) (q := 1) rfl (by decide) rfl ?_
  refine y_istore_n (lo' := [some (.ref 0), some (.int v1), some (.int 0), none]) (q := 2) rfl (Nat.le_of_ble_eq_true rfl) rfl rfl ?_
  refine y_iconst (x := 0) (q := 3) rfl (by decide) rfl ?_
  refine y_istore_n (lo' := [some (.ref 0), some (.int v1), some (.int 0), some (.int 0)]) (q := 4) rfl (Nat.le_of_ble_eq_true rfl) rfl rfl ?_
  refine lz_X7_seatsOf_4 hd v1 h _ (fun v2_10 z11 => ?_) fuel0 0 0  
  refine y_iload_n (q := 52) rfl rfl rfl ?_
  exact y_retP rfl (by decide) rfl rfl
def f_X7_apart (v0 : Int32) (v1 : Int32) : Option (Int32) := if v1.toInt < v0.toInt then ((some (v0 - v1))) else ((some (v1 - v0)))
theorem m_X7_apart {d : Nat} (hd : 1 ≤ d) (v0 : Int32) (v1 : Int32) (h : dH) : dX shM d 183 [.int v0, .int v1] (dP h) (f_X7_apart v0 v1) h := by
  obtain ⟨e, rfl⟩ : ∃ e, d = e + 1 := ⟨d - 1, by omega⟩
  have hd : 0 ≤ e := by omega
  refine dX_of (mj := mj183) (lo := [some (.int v0), some (.int v1)]) rfl (Nat.le_of_ble_eq_true rfl) rfl ?_
  unfold f_X7_apart
  refine y_iload_n (q := 1) rfl rfl rfl ?_
  refine y_iload_n (q := 2) rfl rfl rfl ?_
  refine y_le (q := 11) (q' := 5) rfl rfl rfl rfl rfl (fun c1 => ?_) (fun c2 => ?_)
  · skip
    refine y_iload_n (q := 6) rfl rfl rfl ?_
    refine y_iload_n (q := 7) rfl rfl rfl ?_
    refine y_isub (q := 8) rfl rfl ?_
    refine y_goto (q := 14) rfl rfl ?_
    exact y_retP rfl (by decide) rfl rfl
  · skip
    refine y_iload_n (q := 12) rfl rfl rfl ?_
    refine y_iload_n (q := 13) rfl rfl rfl ?_
    refine y_isub (q := 14) rfl rfl ?_
    exact y_retP rfl (by decide) rfl rfl
def f_X7_fail  (h : dH) : Option (dH) := if (h 0 27).toInt = 0 then (oH (dU h 0 27 1) (fun g3 => oH (dU g3 0 28 (g3 0 24)) (fun g4 => some g4))) else (some h)
theorem m_X7_fail {d : Nat} (hd : 1 ≤ d)  (h : dH) : dX shM d 136 [.ref 0] dV (f_X7_fail  h) h := by
  obtain ⟨e, rfl⟩ : ∃ e, d = e + 1 := ⟨d - 1, by omega⟩
  have hd : 0 ≤ e := by omega
  refine dX_of (mj := mj136) (lo := [some (.ref 0)]) rfl (Nat.le_of_ble_eq_true rfl) rfl ?_
  unfold f_X7_fail
  refine y_aload_n (q := 1) rfl rfl rfl ?_
  refine y_getI (q := 4) rfl rfl (by decide) atM0 rfl rfl ?_
  refine y_ne0 (q := 20) (q' := 7) rfl rfl rfl rfl (fun c1 => ?_) (fun c2 => ?_)
  · skip
    refine y_aload_n (q := 8) rfl rfl rfl ?_
    refine y_iconst (x := 1) (q := 9) rfl (by decide) rfl ?_
    refine y_putI (q := 12) rfl rfl (by decide) atM0 rfl rfl rfl rfl (fun g3 => ?_)
    refine y_aload_n (q := 13) rfl rfl rfl ?_
    refine y_aload_n (q := 14) rfl rfl rfl ?_
    refine y_getI (q := 17) rfl rfl (by decide) atM0 rfl rfl ?_
    refine y_putI (q := 20) rfl rfl (by decide) atM0 rfl rfl rfl rfl (fun g4 => ?_)
    exact y_retV rfl rfl rfl
  · skip
    exact y_retV rfl rfl rfl
def f_X7_byteAt (v1 : Int32) (h : dH) : Option (Int32) := if v1.toInt < (h 0 21).toInt then (if 0 ≤ ((h 0 20) + v1).toInt ∧ ((h 0 20) + v1).toInt < 960 then ((some (h 1 (((h 0 20) + v1).toInt.toNat)))) else none) else ((some (-1)))
theorem m_X7_byteAt {d : Nat} (hd : 1 ≤ d) (v1 : Int32) (h : dH) : dX shM d 134 [.ref 0, .int v1] (dP h) (f_X7_byteAt v1 h) h := by
  obtain ⟨e, rfl⟩ : ∃ e, d = e + 1 := ⟨d - 1, by omega⟩
  have hd : 0 ≤ e := by omega
  refine dX_of (mj := mj134) (lo := [some (.ref 0), some (.int v1)]) rfl (Nat.le_of_ble_eq_true rfl) rfl ?_
  unfold f_X7_byteAt
  refine y_iload_n (q := 1) rfl rfl rfl ?_
  refine y_aload_n (q := 2) rfl rfl rfl ?_
  refine y_getI (q := 5) rfl rfl (by decide) atM0 rfl rfl ?_
  refine y_ge (q := 22) (q' := 8) rfl rfl rfl rfl rfl (fun c1 => ?_) (fun c2 => ?_)
  · skip
    refine y_aload_n (q := 9) rfl rfl rfl ?_
    refine y_getR (b := 1) (q := 12) rfl rfl (by decide) atM0 rfl rfl ?_
    refine y_aload_n (q := 13) rfl rfl rfl ?_
    refine y_getI (q := 16) rfl rfl (by decide) atM0 rfl rfl ?_
    refine y_iload_n (q := 17) rfl rfl rfl ?_
    refine y_iadd (q := 18) rfl rfl ?_
    refine y_guard (fun c3 => ?_)
    refine y_iald (n := 960) (N := 960) (X := ((h 0 20) + v1).toInt) (K := ((h 0 20) + v1).toInt.toNat) (q := 19) hbM rfl atM1 rfl rfl c3 rfl rfl ?_
    refine y_goto (q := 23) rfl rfl ?_
    exact y_retP rfl (by decide) rfl rfl
  · skip
    refine y_iconst (x := (-1)) (q := 23) rfl (by decide) rfl ?_
    exact y_retP rfl (by decide) rfl rfl
def f_X7_isLetter (v1 : Int32) (v2 : Int32) (h : dH) : Option (Int32) := if ((h 0 24) + v1).toInt < (h 0 22).toInt then (oP (f_X7_byteAt ((h 0 24) + v1) h) (fun r3 => if r3.toInt = v2.toInt then ((some 1)) else ((some 0)))) else (if v2.toInt = 0 then ((some 1)) else ((some 0)))
theorem m_X7_isLetter {d : Nat} (hd : 2 ≤ d) (v1 : Int32) (v2 : Int32) (h : dH) : dX shM d 137 [.ref 0, .int v1, .int v2] (dP h) (f_X7_isLetter v1 v2 h) h := by
  obtain ⟨e, rfl⟩ : ∃ e, d = e + 1 := ⟨d - 1, by omega⟩
  have hd : 1 ≤ e := by omega
  refine dX_of (mj := mj137) (lo := [some (.ref 0), some (.int v1), some (.int v2)]) rfl (Nat.le_of_ble_eq_true rfl) rfl ?_
  unfold f_X7_isLetter
  refine y_aload_n (q := 1) rfl rfl rfl ?_
  refine y_getI (q := 4) rfl rfl (by decide) atM0 rfl rfl ?_
  refine y_iload_n (q := 5) rfl rfl rfl ?_
  refine y_iadd (q := 6) rfl rfl ?_
  refine y_aload_n (q := 7) rfl rfl rfl ?_
  refine y_getI (q := 10) rfl rfl (by decide) atM0 rfl rfl ?_
  refine y_ge (q := 35) (q' := 13) rfl rfl rfl rfl rfl (fun c1 => ?_) (fun c2 => ?_)
  · skip
    refine y_aload_n (q := 14) rfl rfl rfl ?_
    refine y_aload_n (q := 15) rfl rfl rfl ?_
    refine y_getI (q := 18) rfl rfl (by decide) atM0 rfl rfl ?_
    refine y_iload_n (q := 19) rfl rfl rfl ?_
    refine y_iadd (q := 20) rfl rfl ?_
    refine y_callP (I := .invokevirtual 172) (idx := 172) (KD := 1) (J := 144) (mj := mj134) (as := [.ref 0, .int ((h 0 24) + v1)]) (r := []) (q := 23) rfl (fun _ _ _ _ _ _ => rfl) rfl (by decide) rfl rfl rfl rfl rfl (Nat.le_of_ble_eq_true rfl) (d_recv atM0 (by decide) (by decide)) rfl (m_X7_byteAt (Nat.le_trans (by decide) hd) ((h 0 24) + v1) h) (fun r3 => ?_)
    refine y_iload_n (q := 24) rfl rfl rfl ?_
    refine y_ne (q := 31) (q' := 27) rfl rfl rfl rfl rfl (fun c4 => ?_) (fun c5 => ?_)
    · skip
      refine y_iconst (x := 1) (q := 28) rfl (by decide) rfl ?_
      refine y_goto (q := 44) rfl rfl ?_
      exact y_retP rfl (by decide) rfl rfl
    · skip
      refine y_iconst (x := 0) (q := 32) rfl (by decide) rfl ?_
      refine y_goto (q := 44) rfl rfl ?_
      exact y_retP rfl (by decide) rfl rfl
  · skip
    refine y_iload_n (q := 36) rfl rfl rfl ?_
    refine y_ne0 (q := 43) (q' := 39) rfl rfl rfl rfl (fun c6 => ?_) (fun c7 => ?_)
    · skip
      refine y_iconst (x := 1) (q := 40) rfl (by decide) rfl ?_
      refine y_goto (q := 44) rfl rfl ?_
      exact y_retP rfl (by decide) rfl rfl
    · skip
      refine y_iconst (x := 0) (q := 44) rfl (by decide) rfl ?_
      exact y_retP rfl (by decide) rfl rfl
def f_X7_isWord (v1 : Int32) (v2 : Int32) (v3 : Int32) (v4 : Int32) (v5 : Int32) (v6 : Int32) (v7 : Int32) (v8 : Int32) (h : dH) : Option (Int32) := if (h 0 27).toInt = 0 then (if (h 0 23).toInt = 1 then (if ((h 0 24) + 8).toInt < (h 0 22).toInt then ((some 0)) else (oP (f_X7_isLetter 0 v1 h) (fun r7 => if r7.toInt = 0 then ((some 0)) else (oP (f_X7_isLetter 1 v2 h) (fun r10 => if r10.toInt = 0 then ((some 0)) else (oP (f_X7_isLetter 2 v3 h) (fun r13 => if r13.toInt = 0 then ((some 0)) else (oP (f_X7_isLetter 3 v4 h) (fun r16 => if r16.toInt = 0 then ((some 0)) else (oP (f_X7_isLetter 4 v5 h) (fun r19 => if r19.toInt = 0 then ((some 0)) else (oP (f_X7_isLetter 5 v6 h) (fun r22 => if r22.toInt = 0 then ((some 0)) else (oP (f_X7_isLetter 6 v7 h) (fun r25 => if r25.toInt = 0 then ((some 0)) else (oP (f_X7_isLetter 7 v8 h) (fun r28 => if r28.toInt = 0 then ((some 0)) else ((some 1))))))))))))))))))) else ((some 0))) else ((some 0))
theorem m_X7_isWord {d : Nat} (hd : 3 ≤ d) (v1 : Int32) (v2 : Int32) (v3 : Int32) (v4 : Int32) (v5 : Int32) (v6 : Int32) (v7 : Int32) (v8 : Int32) (h : dH) : dX shM d 138 [.ref 0, .int v1, .int v2, .int v3, .int v4, .int v5, .int v6, .int v7, .int v8] (dP h) (f_X7_isWord v1 v2 v3 v4 v5 v6 v7 v8 h) h := by
  obtain ⟨e, rfl⟩ : ∃ e, d = e + 1 := ⟨d - 1, by omega⟩
  have hd : 2 ≤ e := by omega
  refine dX_of (mj := mj138) (lo := [some (.ref 0), some (.int v1), some (.int v2), some (.int v3), some (.int v4), some (.int v5), some (.int v6), some (.int v7), some (.int v8)]) rfl (Nat.le_of_ble_eq_true rfl) rfl ?_
  unfold f_X7_isWord
  refine y_aload_n (q := 1) rfl rfl rfl ?_
  refine y_getI (q := 4) rfl rfl (by decide) atM0 rfl rfl ?_
  refine y_ne0 (q := 112) (q' := 7) rfl rfl rfl rfl (fun c1 => ?_) (fun c2 => ?_)
  · skip
    refine y_aload_n (q := 8) rfl rfl rfl ?_
    refine y_getI (q := 11) rfl rfl (by decide) atM0 rfl rfl ?_
    refine y_iconst (x := 1) (q := 12) rfl (by decide) rfl ?_
    refine y_ne (q := 112) (q' := 15) rfl rfl (by decide) rfl rfl (fun c3 => ?_) (fun c4 => ?_)
    · skip
      refine y_aload_n (q := 16) rfl rfl rfl ?_
      refine y_getI (q := 19) rfl rfl (by decide) atM0 rfl rfl ?_
      refine y_aload_n (q := 20) rfl rfl rfl ?_
      refine y_getI (q := 23) rfl rfl (by decide) atM0 rfl rfl ?_
      refine y_bipush (x := 8) (q := 25) rfl (by decide) rfl ?_
      refine y_iadd (q := 26) rfl rfl ?_
      refine y_gt (q := 112) (q' := 29) rfl rfl rfl rfl rfl (fun c5 => ?_) (fun c6 => ?_)
      · skip
        refine y_iconst (x := 0) (q := 113) rfl (by decide) rfl ?_
        exact y_retP rfl (by decide) rfl rfl
      · skip
        refine y_aload_n (q := 30) rfl rfl rfl ?_
        refine y_iconst (x := 0) (q := 31) rfl (by decide) rfl ?_
        refine y_iload_n (q := 32) rfl rfl rfl ?_
        refine y_callP (I := .invokevirtual 200) (idx := 200) (KD := 1) (J := 147) (mj := mj137) (as := [.ref 0, .int 0, .int v1]) (r := []) (q := 35) rfl (fun _ _ _ _ _ _ => rfl) rfl (by decide) rfl rfl rfl rfl rfl (Nat.le_of_ble_eq_true rfl) (d_recv atM0 (by decide) (by decide)) rfl (m_X7_isLetter (Nat.le_trans (by decide) hd) 0 v1 h) (fun r7 => ?_)
        refine y_eq0 (q := 112) (q' := 38) rfl rfl rfl rfl (fun c8 => ?_) (fun c9 => ?_)
        · skip
          refine y_iconst (x := 0) (q := 113) rfl (by decide) rfl ?_
          exact y_retP rfl (by decide) rfl rfl
        · skip
          refine y_aload_n (q := 39) rfl rfl rfl ?_
          refine y_iconst (x := 1) (q := 40) rfl (by decide) rfl ?_
          refine y_iload_n (q := 41) rfl rfl rfl ?_
          refine y_callP (I := .invokevirtual 200) (idx := 200) (KD := 1) (J := 147) (mj := mj137) (as := [.ref 0, .int 1, .int v2]) (r := []) (q := 44) rfl (fun _ _ _ _ _ _ => rfl) rfl (by decide) rfl rfl rfl rfl rfl (Nat.le_of_ble_eq_true rfl) (d_recv atM0 (by decide) (by decide)) rfl (m_X7_isLetter (Nat.le_trans (by decide) hd) 1 v2 h) (fun r10 => ?_)
          refine y_eq0 (q := 112) (q' := 47) rfl rfl rfl rfl (fun c11 => ?_) (fun c12 => ?_)
          · skip
            refine y_iconst (x := 0) (q := 113) rfl (by decide) rfl ?_
            exact y_retP rfl (by decide) rfl rfl
          · skip
            refine y_aload_n (q := 48) rfl rfl rfl ?_
            refine y_iconst (x := 2) (q := 49) rfl (by decide) rfl ?_
            refine y_iload_n (q := 50) rfl rfl rfl ?_
            refine y_callP (I := .invokevirtual 200) (idx := 200) (KD := 1) (J := 147) (mj := mj137) (as := [.ref 0, .int 2, .int v3]) (r := []) (q := 53) rfl (fun _ _ _ _ _ _ => rfl) rfl (by decide) rfl rfl rfl rfl rfl (Nat.le_of_ble_eq_true rfl) (d_recv atM0 (by decide) (by decide)) rfl (m_X7_isLetter (Nat.le_trans (by decide) hd) 2 v3 h) (fun r13 => ?_)
            refine y_eq0 (q := 112) (q' := 56) rfl rfl rfl rfl (fun c14 => ?_) (fun c15 => ?_)
            · skip
              refine y_iconst (x := 0) (q := 113) rfl (by decide) rfl ?_
              exact y_retP rfl (by decide) rfl rfl
            · skip
              refine y_aload_n (q := 57) rfl rfl rfl ?_
              refine y_iconst (x := 3) (q := 58) rfl (by decide) rfl ?_
              refine y_iload (q := 60) rfl rfl rfl ?_
              refine y_callP (I := .invokevirtual 200) (idx := 200) (KD := 1) (J := 147) (mj := mj137) (as := [.ref 0, .int 3, .int v4]) (r := []) (q := 63) rfl (fun _ _ _ _ _ _ => rfl) rfl (by decide) rfl rfl rfl rfl rfl (Nat.le_of_ble_eq_true rfl) (d_recv atM0 (by decide) (by decide)) rfl (m_X7_isLetter (Nat.le_trans (by decide) hd) 3 v4 h) (fun r16 => ?_)
              refine y_eq0 (q := 112) (q' := 66) rfl rfl rfl rfl (fun c17 => ?_) (fun c18 => ?_)
              · skip
                refine y_iconst (x := 0) (q := 113) rfl (by decide) rfl ?_
                exact y_retP rfl (by decide) rfl rfl
              · skip
                refine y_aload_n (q := 67) rfl rfl rfl ?_
                refine y_iconst (x := 4) (q := 68) rfl (by decide) rfl ?_
                refine y_iload (q := 70) rfl rfl rfl ?_
                refine y_callP (I := .invokevirtual 200) (idx := 200) (KD := 1) (J := 147) (mj := mj137) (as := [.ref 0, .int 4, .int v5]) (r := []) (q := 73) rfl (fun _ _ _ _ _ _ => rfl) rfl (by decide) rfl rfl rfl rfl rfl (Nat.le_of_ble_eq_true rfl) (d_recv atM0 (by decide) (by decide)) rfl (m_X7_isLetter (Nat.le_trans (by decide) hd) 4 v5 h) (fun r19 => ?_)
                refine y_eq0 (q := 112) (q' := 76) rfl rfl rfl rfl (fun c20 => ?_) (fun c21 => ?_)
                · skip
                  refine y_iconst (x := 0) (q := 113) rfl (by decide) rfl ?_
                  exact y_retP rfl (by decide) rfl rfl
                · skip
                  refine y_aload_n (q := 77) rfl rfl rfl ?_
                  refine y_iconst (x := 5) (q := 78) rfl (by decide) rfl ?_
                  refine y_iload (q := 80) rfl rfl rfl ?_
                  refine y_callP (I := .invokevirtual 200) (idx := 200) (KD := 1) (J := 147) (mj := mj137) (as := [.ref 0, .int 5, .int v6]) (r := []) (q := 83) rfl (fun _ _ _ _ _ _ => rfl) rfl (by decide) rfl rfl rfl rfl rfl (Nat.le_of_ble_eq_true rfl) (d_recv atM0 (by decide) (by decide)) rfl (m_X7_isLetter (Nat.le_trans (by decide) hd) 5 v6 h) (fun r22 => ?_)
                  refine y_eq0 (q := 112) (q' := 86) rfl rfl rfl rfl (fun c23 => ?_) (fun c24 => ?_)
                  · skip
                    refine y_iconst (x := 0) (q := 113) rfl (by decide) rfl ?_
                    exact y_retP rfl (by decide) rfl rfl
                  · skip
                    refine y_aload_n (q := 87) rfl rfl rfl ?_
                    refine y_bipush (x := 6) (q := 89) rfl (by decide) rfl ?_
                    refine y_iload (q := 91) rfl rfl rfl ?_
                    refine y_callP (I := .invokevirtual 200) (idx := 200) (KD := 1) (J := 147) (mj := mj137) (as := [.ref 0, .int 6, .int v7]) (r := []) (q := 94) rfl (fun _ _ _ _ _ _ => rfl) rfl (by decide) rfl rfl rfl rfl rfl (Nat.le_of_ble_eq_true rfl) (d_recv atM0 (by decide) (by decide)) rfl (m_X7_isLetter (Nat.le_trans (by decide) hd) 6 v7 h) (fun r25 => ?_)
                    refine y_eq0 (q := 112) (q' := 97) rfl rfl rfl rfl (fun c26 => ?_) (fun c27 => ?_)
                    · skip
                      refine y_iconst (x := 0) (q := 113) rfl (by decide) rfl ?_
                      exact y_retP rfl (by decide) rfl rfl
                    · skip
                      refine y_aload_n (q := 98) rfl rfl rfl ?_
                      refine y_bipush (x := 7) (q := 100) rfl (by decide) rfl ?_
                      refine y_iload (q := 102) rfl rfl rfl ?_
                      refine y_callP (I := .invokevirtual 200) (idx := 200) (KD := 1) (J := 147) (mj := mj137) (as := [.ref 0, .int 7, .int v8]) (r := []) (q := 105) rfl (fun _ _ _ _ _ _ => rfl) rfl (by decide) rfl rfl rfl rfl rfl (Nat.le_of_ble_eq_true rfl) (d_recv atM0 (by decide) (by decide)) rfl (m_X7_isLetter (Nat.le_trans (by decide) hd) 7 v8 h) (fun r28 => ?_)
                      refine y_eq0 (q := 112) (q' := 108) rfl rfl rfl rfl (fun c29 => ?_) (fun c30 => ?_)
                      · skip
                        refine y_iconst (x := 0) (q := 113) rfl (by decide) rfl ?_
                        exact y_retP rfl (by decide) rfl rfl
                      · skip
                        refine y_iconst (x := 1) (q := 109) rfl (by decide) rfl ?_
                        refine y_goto (q := 113) rfl rfl ?_
                        exact y_retP rfl (by decide) rfl rfl
    · skip
      refine y_iconst (x := 0) (q := 113) rfl (by decide) rfl ?_
      exact y_retP rfl (by decide) rfl rfl
  · skip
    refine y_iconst (x := 0) (q := 113) rfl (by decide) rfl ?_
    exact y_retP rfl (by decide) rfl rfl
def l_X7_next_0  (k : dH → Option (dH)) : Nat → dH → Option (dH)
  | 0, _ => none
  | n + 1, h => oP (f_X7_byteAt (h 0 22) h) (fun r1 => if r1.toInt = 32 then (oH (dU h 0 22 ((h 0 22) + 1)) (fun g4 => l_X7_next_0  k n  g4)) else (oP (f_X7_byteAt (h 0 22) h) (fun r5 => if r5.toInt = 10 then (oH (dU h 0 22 ((h 0 22) + 1)) (fun g8 => l_X7_next_0  k n  g8)) else (k  h))))
theorem lz_X7_next_0 {d : Nat} (hd : 1 ≤ d) (z1 : Option Value) (z2 : Option Value) (k : dH → Option (dH)) (hk : ∀ (h : dH), dY shM d mj135 dV (k h) 39 [some (.ref 0), z1, z2] [] h) : ∀ (n : Nat) (h : dH), dY shM d mj135 dV (l_X7_next_0  k n h) 0 [some (.ref 0), z1, z2] [] h
  | 0, _ => dY_none
  | n + 1, h => by
    rw [l_X7_next_0]
    refine y_aload_n (q := 1) rfl rfl rfl ?_
    refine y_aload_n (q := 2) rfl rfl rfl ?_
    refine y_getI (q := 5) rfl rfl (by decide) atM0 rfl rfl ?_
    refine y_callP (I := .invokevirtual 172) (idx := 172) (KD := 1) (J := 144) (mj := mj134) (as := [.ref 0, .int (h 0 22)]) (r := []) (q := 8) rfl (fun _ _ _ _ _ _ => rfl) rfl (by decide) rfl rfl rfl rfl rfl (Nat.le_of_ble_eq_true rfl) (d_recv atM0 (by decide) (by decide)) rfl (m_X7_byteAt (Nat.le_trans (by decide) hd) (h 0 22) h) (fun r1 => ?_)
    refine y_bipush (x := 32) (q := 10) rfl (by decide) rfl ?_
    refine y_eq (q := 26) (q' := 13) rfl rfl (by decide) rfl rfl (fun c2 => ?_) (fun c3 => ?_)
    · skip
      refine y_aload_n (q := 27) rfl rfl rfl ?_
      refine y_dup (q := 28) rfl rfl ?_
      refine y_getI (q := 31) rfl rfl (by decide) atM0 rfl rfl ?_
      refine y_iconst (x := 1) (q := 32) rfl (by decide) rfl ?_
      refine y_iadd (q := 33) rfl rfl ?_
      refine y_putI (q := 36) rfl rfl (by decide) atM0 rfl rfl rfl rfl (fun g4 => ?_)
      refine y_goto (q := 0) rfl rfl ?_
      exact lz_X7_next_0 hd z1 z2 k hk n  g4 
    · skip
      refine y_aload_n (q := 14) rfl rfl rfl ?_
      refine y_aload_n (q := 15) rfl rfl rfl ?_
      refine y_getI (q := 18) rfl rfl (by decide) atM0 rfl rfl ?_
      refine y_callP (I := .invokevirtual 172) (idx := 172) (KD := 1) (J := 144) (mj := mj134) (as := [.ref 0, .int (h 0 22)]) (r := []) (q := 21) rfl (fun _ _ _ _ _ _ => rfl) rfl (by decide) rfl rfl rfl rfl rfl (Nat.le_of_ble_eq_true rfl) (d_recv atM0 (by decide) (by decide)) rfl (m_X7_byteAt (Nat.le_trans (by decide) hd) (h 0 22) h) (fun r5 => ?_)
      refine y_bipush (x := 10) (q := 23) rfl (by decide) rfl ?_
      refine y_ne (q := 39) (q' := 26) rfl rfl (by decide) rfl rfl (fun c6 => ?_) (fun c7 => ?_)
      · skip
        refine y_aload_n (q := 27) rfl rfl rfl ?_
        refine y_dup (q := 28) rfl rfl ?_
        refine y_getI (q := 31) rfl rfl (by decide) atM0 rfl rfl ?_
        refine y_iconst (x := 1) (q := 32) rfl (by decide) rfl ?_
        refine y_iadd (q := 33) rfl rfl ?_
        refine y_putI (q := 36) rfl rfl (by decide) atM0 rfl rfl rfl rfl (fun g8 => ?_)
        refine y_goto (q := 0) rfl rfl ?_
        exact lz_X7_next_0 hd z1 z2 k hk n  g8 
      · skip
        exact hk   h
def l_X7_next_160  (k : Int32 → dH → Option (dH)) : Nat → Int32 → dH → Option (dH)
  | 0, _, _ => none
  | n + 1, v2, h => oP (f_X7_byteAt (h 0 22) h) (fun r73 => oP (f_X7_in (r73.toInt64) 48 57) (fun r74 => if r74.toInt = 0 then (k v2 h) else (if v2.toInt < 4 then (oP (f_X7_byteAt (h 0 22) h) (fun r79 => if (((10 * (h 0 25).toInt64) + r79.toInt64) - 48).toInt32.toInt64 = (((10 * (h 0 25).toInt64) + r79.toInt64) - 48) then oH (dU h 0 25 (((10 * (h 0 25).toInt64) + r79.toInt64) - 48).toInt32) (fun g80 => oH (dU g80 0 22 ((g80 0 22) + 1)) (fun g82 => l_X7_next_160  k n (v2 + 1) g82)) else none)) else (if (h 0 25).toInt64.toInt32.toInt64 = (h 0 25).toInt64 then oH (dU h 0 25 (h 0 25).toInt64.toInt32) (fun g83 => oH (dU g83 0 22 ((g83 0 22) + 1)) (fun g85 => l_X7_next_160  k n (v2 + 1) g85)) else none))))
theorem lz_X7_next_160 {d : Nat} (hd : 1 ≤ d) (v1 : Int32) (k : Int32 → dH → Option (dH)) (hk : ∀ (v2 : Int32) (h : dH), dY shM d mj135 dV (k v2 h) 235 [some (.ref 0), some (.int v1), some (.int v2)] [] h) : ∀ (n : Nat) (v2 : Int32) (h : dH), dY shM d mj135 dV (l_X7_next_160  k n v2 h) 160 [some (.ref 0), some (.int v1), some (.int v2)] [] h
  | 0, _, _ => dY_none
  | n + 1, v2, h => by
    rw [l_X7_next_160]
    refine y_aload_n (q := 161) rfl rfl rfl ?_
    refine y_aload_n (q := 162) rfl rfl rfl ?_
    refine y_getI (q := 165) rfl rfl (by decide) atM0 rfl rfl ?_
    refine y_callP (I := .invokevirtual 172) (idx := 172) (KD := 1) (J := 144) (mj := mj134) (as := [.ref 0, .int (h 0 22)]) (r := []) (q := 168) rfl (fun _ _ _ _ _ _ => rfl) rfl (by decide) rfl rfl rfl rfl rfl (Nat.le_of_ble_eq_true rfl) (d_recv atM0 (by decide) (by decide)) rfl (m_X7_byteAt (Nat.le_trans (by decide) hd) (h 0 22) h) (fun r73 => ?_)
    refine y_i2l (q := 169) rfl rfl ?_
    refine y_ldc2_w (u := 48) (q := 172) rfl rfl rfl ?_
    refine y_ldc2_w (u := 57) (q := 175) rfl rfl rfl ?_
    refine y_callP (I := .invokestatic 91) (idx := 91) (KD := 0) (J := 128) (mj := mj118) (as := [.long r73.toInt64, .long 48, .long 57]) (r := []) (q := 178) rfl (fun _ _ _ _ _ _ => rfl) rfl (by decide) rfl rfl rfl rfl rfl (Nat.le_of_ble_eq_true rfl) rfl rfl (m_X7_in (Nat.le_trans (by decide) hd) (r73.toInt64) 48 57 h) (fun r74 => ?_)
    refine y_eq0 (q := 235) (q' := 181) rfl rfl rfl rfl (fun c75 => ?_) (fun c76 => ?_)
    · skip
      exact hk v2  h
    · skip
      refine y_aload_n (q := 182) rfl rfl rfl ?_
      refine y_iload_n (q := 183) rfl rfl rfl ?_
      refine y_iconst (x := 4) (q := 184) rfl (by decide) rfl ?_
      refine y_ge (q := 212) (q' := 187) rfl rfl (by decide) rfl rfl (fun c77 => ?_) (fun c78 => ?_)
      · skip
        refine y_ldc2_w (u := 10) (q := 190) rfl rfl rfl ?_
        refine y_aload_n (q := 191) rfl rfl rfl ?_
        refine y_getL (q := 194) rfl rfl (by decide) atM0 rfl rfl ?_
        refine y_lmul (q := 195) rfl rfl ?_
        refine y_aload_n (q := 196) rfl rfl rfl ?_
        refine y_aload_n (q := 197) rfl rfl rfl ?_
        refine y_getI (q := 200) rfl rfl (by decide) atM0 rfl rfl ?_
        refine y_callP (I := .invokevirtual 172) (idx := 172) (KD := 1) (J := 144) (mj := mj134) (as := [.ref 0, .int (h 0 22)]) (r := [.long (10 * (h 0 25).toInt64), .ref 0]) (q := 203) rfl (fun _ _ _ _ _ _ => rfl) rfl (by decide) rfl rfl rfl rfl rfl (Nat.le_of_ble_eq_true rfl) (d_recv atM0 (by decide) (by decide)) rfl (m_X7_byteAt (Nat.le_trans (by decide) hd) (h 0 22) h) (fun r79 => ?_)
        refine y_i2l (q := 204) rfl rfl ?_
        refine y_ladd (q := 205) rfl rfl ?_
        refine y_ldc2_w (u := 48) (q := 208) rfl rfl rfl ?_
        refine y_lsub (q := 209) rfl rfl ?_
        refine y_goto (q := 216) rfl rfl ?_
        refine y_guard (fun c81 => ?_)
        refine y_putL (q := 219) rfl rfl (by decide) atM0 rfl c81 rfl rfl rfl (fun g80 => ?_)
        refine y_iinc (z := (v2 + 1)) (lo' := [some (.ref 0), some (.int v1), some (.int (v2 + 1))]) (q := 222) rfl rfl (Nat.le_of_ble_eq_true rfl) (by rw [oi_1]) rfl rfl ?_
        refine y_aload_n (q := 223) rfl rfl rfl ?_
        refine y_dup (q := 224) rfl rfl ?_
        refine y_getI (q := 227) rfl rfl (by decide) atM0 rfl rfl ?_
        refine y_iconst (x := 1) (q := 228) rfl (by decide) rfl ?_
        refine y_iadd (q := 229) rfl rfl ?_
        refine y_putI (q := 232) rfl rfl (by decide) atM0 rfl rfl rfl rfl (fun g82 => ?_)
        refine y_goto (q := 160) rfl rfl ?_
        exact lz_X7_next_160 hd v1 k hk n (v2 + 1) g82 
      · skip
        refine y_aload_n (q := 213) rfl rfl rfl ?_
        refine y_getL (q := 216) rfl rfl (by decide) atM0 rfl rfl ?_
        refine y_guard (fun c84 => ?_)
        refine y_putL (q := 219) rfl rfl (by decide) atM0 rfl c84 rfl rfl rfl (fun g83 => ?_)
        refine y_iinc (z := (v2 + 1)) (lo' := [some (.ref 0), some (.int v1), some (.int (v2 + 1))]) (q := 222) rfl rfl (Nat.le_of_ble_eq_true rfl) (by rw [oi_1]) rfl rfl ?_
        refine y_aload_n (q := 223) rfl rfl rfl ?_
        refine y_dup (q := 224) rfl rfl ?_
        refine y_getI (q := 227) rfl rfl (by decide) atM0 rfl rfl ?_
        refine y_iconst (x := 1) (q := 228) rfl (by decide) rfl ?_
        refine y_iadd (q := 229) rfl rfl ?_
        refine y_putI (q := 232) rfl rfl (by decide) atM0 rfl rfl rfl rfl (fun g85 => ?_)
        refine y_goto (q := 160) rfl rfl ?_
        exact lz_X7_next_160 hd v1 k hk n (v2 + 1) g85 
def l_X7_next_100  (k : dH → Option (dH)) : Nat → dH → Option (dH)
  | 0, _ => none
  | n + 1, h => oP (f_X7_byteAt (h 0 22) h) (fun r93 => oP (f_X7_in (r93.toInt64) 97 122) (fun r94 => if r94.toInt = 0 then (k  h) else (oH (dU h 0 22 ((h 0 22) + 1)) (fun g97 => l_X7_next_100  k n  g97))))
theorem lz_X7_next_100 {d : Nat} (hd : 1 ≤ d) (v1 : Int32) (z2 : Option Value) (k : dH → Option (dH)) (hk : ∀ (h : dH), dY shM d mj135 dV (k h) 321 [some (.ref 0), some (.int v1), z2] [] h) : ∀ (n : Nat) (h : dH), dY shM d mj135 dV (l_X7_next_100  k n h) 100 [some (.ref 0), some (.int v1), z2] [] h
  | 0, _ => dY_none
  | n + 1, h => by
    rw [l_X7_next_100]
    refine y_aload_n (q := 101) rfl rfl rfl ?_
    refine y_aload_n (q := 102) rfl rfl rfl ?_
    refine y_getI (q := 105) rfl rfl (by decide) atM0 rfl rfl ?_
    refine y_callP (I := .invokevirtual 172) (idx := 172) (KD := 1) (J := 144) (mj := mj134) (as := [.ref 0, .int (h 0 22)]) (r := []) (q := 108) rfl (fun _ _ _ _ _ _ => rfl) rfl (by decide) rfl rfl rfl rfl rfl (Nat.le_of_ble_eq_true rfl) (d_recv atM0 (by decide) (by decide)) rfl (m_X7_byteAt (Nat.le_trans (by decide) hd) (h 0 22) h) (fun r93 => ?_)
    refine y_i2l (q := 109) rfl rfl ?_
    refine y_ldc2_w (u := 97) (q := 112) rfl rfl rfl ?_
    refine y_ldc2_w (u := 122) (q := 115) rfl rfl rfl ?_
    refine y_callP (I := .invokestatic 91) (idx := 91) (KD := 0) (J := 128) (mj := mj118) (as := [.long r93.toInt64, .long 97, .long 122]) (r := []) (q := 118) rfl (fun _ _ _ _ _ _ => rfl) rfl (by decide) rfl rfl rfl rfl rfl (Nat.le_of_ble_eq_true rfl) rfl rfl (m_X7_in (Nat.le_trans (by decide) hd) (r93.toInt64) 97 122 h) (fun r94 => ?_)
    refine y_eq0 (q := 321) (q' := 121) rfl rfl rfl rfl (fun c95 => ?_) (fun c96 => ?_)
    · skip
      exact hk   h
    · skip
      refine y_aload_n (q := 122) rfl rfl rfl ?_
      refine y_dup (q := 123) rfl rfl ?_
      refine y_getI (q := 126) rfl rfl (by decide) atM0 rfl rfl ?_
      refine y_iconst (x := 1) (q := 127) rfl (by decide) rfl ?_
      refine y_iadd (q := 128) rfl rfl ?_
      refine y_putI (q := 131) rfl rfl (by decide) atM0 rfl rfl rfl rfl (fun g97 => ?_)
      refine y_goto (q := 100) rfl rfl ?_
      exact lz_X7_next_100 hd v1 z2 k hk n  g97 
def f_X7_next  (h : dH) : Option (dH) := l_X7_next_0   (fun g9 => oH (dU g9 0 24 (g9 0 22)) (fun g10 => oP (f_X7_byteAt (g10 0 22) g10) (fun r11 => oH (dU g10 0 23 4) (fun g12 => if r11.toInt < 0 then (oH (dU g12 0 23 0) (fun g15 => oH (dU g15 0 24 (g15 0 21)) (fun g16 => some g16))) else (oP (f_X7_in (r11.toInt64) 97 122) (fun r17 => if r17.toInt = 0 then (oP (f_X7_in (r11.toInt64) 48 57) (fun r20 => if r20.toInt = 0 then (if r11.toInt = 40 then (oH (dU g12 0 23 3) (fun g25 => if r11.toInt64.toInt32.toInt64 = r11.toInt64 then oH (dU g25 0 25 r11.toInt64.toInt32) (fun g26 => oH (dU g26 0 22 ((g26 0 22) + 1)) (fun g28 => some g28)) else none)) else (if r11.toInt = 41 then (oH (dU g12 0 23 3) (fun g31 => if r11.toInt64.toInt32.toInt64 = r11.toInt64 then oH (dU g31 0 25 r11.toInt64.toInt32) (fun g32 => oH (dU g32 0 22 ((g32 0 22) + 1)) (fun g34 => some g34)) else none)) else (if r11.toInt = 59 then (oH (dU g12 0 23 3) (fun g37 => if r11.toInt64.toInt32.toInt64 = r11.toInt64 then oH (dU g37 0 25 r11.toInt64.toInt32) (fun g38 => oH (dU g38 0 22 ((g38 0 22) + 1)) (fun g40 => some g40)) else none)) else (if r11.toInt = 43 then (oH (dU g12 0 23 3) (fun g43 => if r11.toInt64.toInt32.toInt64 = r11.toInt64 then oH (dU g43 0 25 r11.toInt64.toInt32) (fun g44 => oH (dU g44 0 22 ((g44 0 22) + 1)) (fun g46 => some g46)) else none)) else (if r11.toInt = 45 then (oH (dU g12 0 23 3) (fun g49 => if r11.toInt64.toInt32.toInt64 = r11.toInt64 then oH (dU g49 0 25 r11.toInt64.toInt32) (fun g50 => oH (dU g50 0 22 ((g50 0 22) + 1)) (fun g52 => some g52)) else none)) else (if r11.toInt = 42 then (oH (dU g12 0 23 3) (fun g55 => if r11.toInt64.toInt32.toInt64 = r11.toInt64 then oH (dU g55 0 25 r11.toInt64.toInt32) (fun g56 => oH (dU g56 0 22 ((g56 0 22) + 1)) (fun g58 => some g58)) else none)) else (if r11.toInt = 60 then (oH (dU g12 0 23 3) (fun g61 => if r11.toInt64.toInt32.toInt64 = r11.toInt64 then oH (dU g61 0 25 r11.toInt64.toInt32) (fun g62 => oH (dU g62 0 22 ((g62 0 22) + 1)) (fun g64 => some g64)) else none)) else (if r11.toInt = 61 then (oH (dU g12 0 23 3) (fun g67 => if r11.toInt64.toInt32.toInt64 = r11.toInt64 then oH (dU g67 0 25 r11.toInt64.toInt32) (fun g68 => oH (dU g68 0 22 ((g68 0 22) + 1)) (fun g70 => some g70)) else none)) else (some g12))))))))) else (oH (dU g12 0 23 2) (fun g71 => oH (dU g71 0 25 (0 : Int64).toInt32) (fun g72 => l_X7_next_160   (fun v2_86 g87 => if 4 < v2_86.toInt then (oH (dU g87 0 23 4) (fun g90 => some g90)) else (oH (dU g87 0 23 2) (fun g91 => some g91))) fuel0 0 g72))))) else (oH (dU g12 0 23 1) (fun g92 => l_X7_next_100   (fun g98 => some g98) fuel0  g92)))))))) fuel0  h
theorem m_X7_next {d : Nat} (hd : 2 ≤ d)  (h : dH) : dX shM d 135 [.ref 0] dV (f_X7_next  h) h := by
  obtain ⟨e, rfl⟩ : ∃ e, d = e + 1 := ⟨d - 1, by omega⟩
  have hd : 1 ≤ e := by omega
  refine dX_of (mj := mj135) (lo := [some (.ref 0), none, none]) rfl (Nat.le_of_ble_eq_true rfl) rfl ?_
  unfold f_X7_next
  refine lz_X7_next_0 hd (none) (none)  _ (fun g9 => ?_) fuel0  h 
  refine y_aload_n (q := 40) rfl rfl rfl ?_
  refine y_aload_n (q := 41) rfl rfl rfl ?_
  refine y_getI (q := 44) rfl rfl (by decide) atM0 rfl rfl ?_
  refine y_putI (q := 47) rfl rfl (by decide) atM0 rfl rfl rfl rfl (fun g10 => ?_)
  refine y_aload_n (q := 48) rfl rfl rfl ?_
  refine y_aload_n (q := 49) rfl rfl rfl ?_
  refine y_getI (q := 52) rfl rfl (by decide) atM0 rfl rfl ?_
  refine y_callP (I := .invokevirtual 172) (idx := 172) (KD := 1) (J := 144) (mj := mj134) (as := [.ref 0, .int (g10 0 22)]) (r := []) (q := 55) rfl (fun _ _ _ _ _ _ => rfl) rfl (by decide) rfl rfl rfl rfl rfl (Nat.le_of_ble_eq_true rfl) (d_recv atM0 (by decide) (by decide)) rfl (m_X7_byteAt (Nat.le_trans (by decide) hd) (g10 0 22) g10) (fun r11 => ?_)
  refine y_istore_n (lo' := [some (.ref 0), some (.int r11), none]) (q := 56) rfl (Nat.le_of_ble_eq_true rfl) rfl rfl ?_
  refine y_aload_n (q := 57) rfl rfl rfl ?_
  refine y_iconst (x := 4) (q := 58) rfl (by decide) rfl ?_
  refine y_putI (q := 61) rfl rfl (by decide) atM0 rfl rfl rfl rfl (fun g12 => ?_)
  refine y_iload_n (q := 62) rfl rfl rfl ?_
  refine y_ge0 (q := 81) (q' := 65) rfl rfl rfl rfl (fun c13 => ?_) (fun c14 => ?_)
  · skip
    refine y_aload_n (q := 66) rfl rfl rfl ?_
    refine y_iconst (x := 0) (q := 67) rfl (by decide) rfl ?_
    refine y_putI (q := 70) rfl rfl (by decide) atM0 rfl rfl rfl rfl (fun g15 => ?_)
    refine y_aload_n (q := 71) rfl rfl rfl ?_
    refine y_aload_n (q := 72) rfl rfl rfl ?_
    refine y_getI (q := 75) rfl rfl (by decide) atM0 rfl rfl ?_
    refine y_putI (q := 78) rfl rfl (by decide) atM0 rfl rfl rfl rfl (fun g16 => ?_)
    refine y_goto (q := 321) rfl rfl ?_
    exact y_retV rfl rfl rfl
  · skip
    refine y_iload_n (q := 82) rfl rfl rfl ?_
    refine y_i2l (q := 83) rfl rfl ?_
    refine y_ldc2_w (u := 97) (q := 86) rfl rfl rfl ?_
    refine y_ldc2_w (u := 122) (q := 89) rfl rfl rfl ?_
    refine y_callP (I := .invokestatic 91) (idx := 91) (KD := 0) (J := 128) (mj := mj118) (as := [.long r11.toInt64, .long 97, .long 122]) (r := []) (q := 92) rfl (fun _ _ _ _ _ _ => rfl) rfl (by decide) rfl rfl rfl rfl rfl (Nat.le_of_ble_eq_true rfl) rfl rfl (m_X7_in (Nat.le_trans (by decide) hd) (r11.toInt64) 97 122 g12) (fun r17 => ?_)
    refine y_eq0 (q := 134) (q' := 95) rfl rfl rfl rfl (fun c18 => ?_) (fun c19 => ?_)
    · skip
      refine y_iload_n (q := 135) rfl rfl rfl ?_
      refine y_i2l (q := 136) rfl rfl ?_
      refine y_ldc2_w (u := 48) (q := 139) rfl rfl rfl ?_
      refine y_ldc2_w (u := 57) (q := 142) rfl rfl rfl ?_
      refine y_callP (I := .invokestatic 91) (idx := 91) (KD := 0) (J := 128) (mj := mj118) (as := [.long r11.toInt64, .long 48, .long 57]) (r := []) (q := 145) rfl (fun _ _ _ _ _ _ => rfl) rfl (by decide) rfl rfl rfl rfl rfl (Nat.le_of_ble_eq_true rfl) rfl rfl (m_X7_in (Nat.le_trans (by decide) hd) (r11.toInt64) 48 57 g12) (fun r20 => ?_)
      refine y_eq0 (q := 252) (q' := 148) rfl rfl rfl rfl (fun c21 => ?_) (fun c22 => ?_)
      · skip
        refine y_iload_n (q := 253) rfl rfl rfl ?_
        refine y_bipush (x := 40) (q := 255) rfl (by decide) rfl ?_
        refine y_eq (q := 300) (q' := 258) rfl rfl (by decide) rfl rfl (fun c23 => ?_) (fun c24 => ?_)
        · skip
          refine y_aload_n (q := 301) rfl rfl rfl ?_
          refine y_iconst (x := 3) (q := 302) rfl (by decide) rfl ?_
          refine y_putI (q := 305) rfl rfl (by decide) atM0 rfl rfl rfl rfl (fun g25 => ?_)
          refine y_aload_n (q := 306) rfl rfl rfl ?_
          refine y_iload_n (q := 307) rfl rfl rfl ?_
          refine y_i2l (q := 308) rfl rfl ?_
          refine y_guard (fun c27 => ?_)
          refine y_putL (q := 311) rfl rfl (by decide) atM0 rfl c27 rfl rfl rfl (fun g26 => ?_)
          refine y_aload_n (q := 312) rfl rfl rfl ?_
          refine y_dup (q := 313) rfl rfl ?_
          refine y_getI (q := 316) rfl rfl (by decide) atM0 rfl rfl ?_
          refine y_iconst (x := 1) (q := 317) rfl (by decide) rfl ?_
          refine y_iadd (q := 318) rfl rfl ?_
          refine y_putI (q := 321) rfl rfl (by decide) atM0 rfl rfl rfl rfl (fun g28 => ?_)
          exact y_retV rfl rfl rfl
        · skip
          refine y_iload_n (q := 259) rfl rfl rfl ?_
          refine y_bipush (x := 41) (q := 261) rfl (by decide) rfl ?_
          refine y_eq (q := 300) (q' := 264) rfl rfl (by decide) rfl rfl (fun c29 => ?_) (fun c30 => ?_)
          · skip
            refine y_aload_n (q := 301) rfl rfl rfl ?_
            refine y_iconst (x := 3) (q := 302) rfl (by decide) rfl ?_
            refine y_putI (q := 305) rfl rfl (by decide) atM0 rfl rfl rfl rfl (fun g31 => ?_)
            refine y_aload_n (q := 306) rfl rfl rfl ?_
            refine y_iload_n (q := 307) rfl rfl rfl ?_
            refine y_i2l (q := 308) rfl rfl ?_
            refine y_guard (fun c33 => ?_)
            refine y_putL (q := 311) rfl rfl (by decide) atM0 rfl c33 rfl rfl rfl (fun g32 => ?_)
            refine y_aload_n (q := 312) rfl rfl rfl ?_
            refine y_dup (q := 313) rfl rfl ?_
            refine y_getI (q := 316) rfl rfl (by decide) atM0 rfl rfl ?_
            refine y_iconst (x := 1) (q := 317) rfl (by decide) rfl ?_
            refine y_iadd (q := 318) rfl rfl ?_
            refine y_putI (q := 321) rfl rfl (by decide) atM0 rfl rfl rfl rfl (fun g34 => ?_)
            exact y_retV rfl rfl rfl
          · skip
            refine y_iload_n (q := 265) rfl rfl rfl ?_
            refine y_bipush (x := 59) (q := 267) rfl (by decide) rfl ?_
            refine y_eq (q := 300) (q' := 270) rfl rfl (by decide) rfl rfl (fun c35 => ?_) (fun c36 => ?_)
            · skip
              refine y_aload_n (q := 301) rfl rfl rfl ?_
              refine y_iconst (x := 3) (q := 302) rfl (by decide) rfl ?_
              refine y_putI (q := 305) rfl rfl (by decide) atM0 rfl rfl rfl rfl (fun g37 => ?_)
              refine y_aload_n (q := 306) rfl rfl rfl ?_
              refine y_iload_n (q := 307) rfl rfl rfl ?_
              refine y_i2l (q := 308) rfl rfl ?_
              refine y_guard (fun c39 => ?_)
              refine y_putL (q := 311) rfl rfl (by decide) atM0 rfl c39 rfl rfl rfl (fun g38 => ?_)
              refine y_aload_n (q := 312) rfl rfl rfl ?_
              refine y_dup (q := 313) rfl rfl ?_
              refine y_getI (q := 316) rfl rfl (by decide) atM0 rfl rfl ?_
              refine y_iconst (x := 1) (q := 317) rfl (by decide) rfl ?_
              refine y_iadd (q := 318) rfl rfl ?_
              refine y_putI (q := 321) rfl rfl (by decide) atM0 rfl rfl rfl rfl (fun g40 => ?_)
              exact y_retV rfl rfl rfl
            · skip
              refine y_iload_n (q := 271) rfl rfl rfl ?_
              refine y_bipush (x := 43) (q := 273) rfl (by decide) rfl ?_
              refine y_eq (q := 300) (q' := 276) rfl rfl (by decide) rfl rfl (fun c41 => ?_) (fun c42 => ?_)
              · skip
                refine y_aload_n (q := 301) rfl rfl rfl ?_
                refine y_iconst (x := 3) (q := 302) rfl (by decide) rfl ?_
                refine y_putI (q := 305) rfl rfl (by decide) atM0 rfl rfl rfl rfl (fun g43 => ?_)
                refine y_aload_n (q := 306) rfl rfl rfl ?_
                refine y_iload_n (q := 307) rfl rfl rfl ?_
                refine y_i2l (q := 308) rfl rfl ?_
                refine y_guard (fun c45 => ?_)
                refine y_putL (q := 311) rfl rfl (by decide) atM0 rfl c45 rfl rfl rfl (fun g44 => ?_)
                refine y_aload_n (q := 312) rfl rfl rfl ?_
                refine y_dup (q := 313) rfl rfl ?_
                refine y_getI (q := 316) rfl rfl (by decide) atM0 rfl rfl ?_
                refine y_iconst (x := 1) (q := 317) rfl (by decide) rfl ?_
                refine y_iadd (q := 318) rfl rfl ?_
                refine y_putI (q := 321) rfl rfl (by decide) atM0 rfl rfl rfl rfl (fun g46 => ?_)
                exact y_retV rfl rfl rfl
              · skip
                refine y_iload_n (q := 277) rfl rfl rfl ?_
                refine y_bipush (x := 45) (q := 279) rfl (by decide) rfl ?_
                refine y_eq (q := 300) (q' := 282) rfl rfl (by decide) rfl rfl (fun c47 => ?_) (fun c48 => ?_)
                · skip
                  refine y_aload_n (q := 301) rfl rfl rfl ?_
                  refine y_iconst (x := 3) (q := 302) rfl (by decide) rfl ?_
                  refine y_putI (q := 305) rfl rfl (by decide) atM0 rfl rfl rfl rfl (fun g49 => ?_)
                  refine y_aload_n (q := 306) rfl rfl rfl ?_
                  refine y_iload_n (q := 307) rfl rfl rfl ?_
                  refine y_i2l (q := 308) rfl rfl ?_
                  refine y_guard (fun c51 => ?_)
                  refine y_putL (q := 311) rfl rfl (by decide) atM0 rfl c51 rfl rfl rfl (fun g50 => ?_)
                  refine y_aload_n (q := 312) rfl rfl rfl ?_
                  refine y_dup (q := 313) rfl rfl ?_
                  refine y_getI (q := 316) rfl rfl (by decide) atM0 rfl rfl ?_
                  refine y_iconst (x := 1) (q := 317) rfl (by decide) rfl ?_
                  refine y_iadd (q := 318) rfl rfl ?_
                  refine y_putI (q := 321) rfl rfl (by decide) atM0 rfl rfl rfl rfl (fun g52 => ?_)
                  exact y_retV rfl rfl rfl
                · skip
                  refine y_iload_n (q := 283) rfl rfl rfl ?_
                  refine y_bipush (x := 42) (q := 285) rfl (by decide) rfl ?_
                  refine y_eq (q := 300) (q' := 288) rfl rfl (by decide) rfl rfl (fun c53 => ?_) (fun c54 => ?_)
                  · skip
                    refine y_aload_n (q := 301) rfl rfl rfl ?_
                    refine y_iconst (x := 3) (q := 302) rfl (by decide) rfl ?_
                    refine y_putI (q := 305) rfl rfl (by decide) atM0 rfl rfl rfl rfl (fun g55 => ?_)
                    refine y_aload_n (q := 306) rfl rfl rfl ?_
                    refine y_iload_n (q := 307) rfl rfl rfl ?_
                    refine y_i2l (q := 308) rfl rfl ?_
                    refine y_guard (fun c57 => ?_)
                    refine y_putL (q := 311) rfl rfl (by decide) atM0 rfl c57 rfl rfl rfl (fun g56 => ?_)
                    refine y_aload_n (q := 312) rfl rfl rfl ?_
                    refine y_dup (q := 313) rfl rfl ?_
                    refine y_getI (q := 316) rfl rfl (by decide) atM0 rfl rfl ?_
                    refine y_iconst (x := 1) (q := 317) rfl (by decide) rfl ?_
                    refine y_iadd (q := 318) rfl rfl ?_
                    refine y_putI (q := 321) rfl rfl (by decide) atM0 rfl rfl rfl rfl (fun g58 => ?_)
                    exact y_retV rfl rfl rfl
                  · skip
                    refine y_iload_n (q := 289) rfl rfl rfl ?_
                    refine y_bipush (x := 60) (q := 291) rfl (by decide) rfl ?_
                    refine y_eq (q := 300) (q' := 294) rfl rfl (by decide) rfl rfl (fun c59 => ?_) (fun c60 => ?_)
                    · skip
                      refine y_aload_n (q := 301) rfl rfl rfl ?_
                      refine y_iconst (x := 3) (q := 302) rfl (by decide) rfl ?_
                      refine y_putI (q := 305) rfl rfl (by decide) atM0 rfl rfl rfl rfl (fun g61 => ?_)
                      refine y_aload_n (q := 306) rfl rfl rfl ?_
                      refine y_iload_n (q := 307) rfl rfl rfl ?_
                      refine y_i2l (q := 308) rfl rfl ?_
                      refine y_guard (fun c63 => ?_)
                      refine y_putL (q := 311) rfl rfl (by decide) atM0 rfl c63 rfl rfl rfl (fun g62 => ?_)
                      refine y_aload_n (q := 312) rfl rfl rfl ?_
                      refine y_dup (q := 313) rfl rfl ?_
                      refine y_getI (q := 316) rfl rfl (by decide) atM0 rfl rfl ?_
                      refine y_iconst (x := 1) (q := 317) rfl (by decide) rfl ?_
                      refine y_iadd (q := 318) rfl rfl ?_
                      refine y_putI (q := 321) rfl rfl (by decide) atM0 rfl rfl rfl rfl (fun g64 => ?_)
                      exact y_retV rfl rfl rfl
                    · skip
                      refine y_iload_n (q := 295) rfl rfl rfl ?_
                      refine y_bipush (x := 61) (q := 297) rfl (by decide) rfl ?_
                      refine y_ne (q := 321) (q' := 300) rfl rfl (by decide) rfl rfl (fun c65 => ?_) (fun c66 => ?_)
                      · skip
                        refine y_aload_n (q := 301) rfl rfl rfl ?_
                        refine y_iconst (x := 3) (q := 302) rfl (by decide) rfl ?_
                        refine y_putI (q := 305) rfl rfl (by decide) atM0 rfl rfl rfl rfl (fun g67 => ?_)
                        refine y_aload_n (q := 306) rfl rfl rfl ?_
                        refine y_iload_n (q := 307) rfl rfl rfl ?_
                        refine y_i2l (q := 308) rfl rfl ?_
                        refine y_guard (fun c69 => ?_)
                        refine y_putL (q := 311) rfl rfl (by decide) atM0 rfl c69 rfl rfl rfl (fun g68 => ?_)
                        refine y_aload_n (q := 312) rfl rfl rfl ?_
                        refine y_dup (q := 313) rfl rfl ?_
                        refine y_getI (q := 316) rfl rfl (by decide) atM0 rfl rfl ?_
                        refine y_iconst (x := 1) (q := 317) rfl (by decide) rfl ?_
                        refine y_iadd (q := 318) rfl rfl ?_
                        refine y_putI (q := 321) rfl rfl (by decide) atM0 rfl rfl rfl rfl (fun g70 => ?_)
                        exact y_retV rfl rfl rfl
                      · skip
                        exact y_retV rfl rfl rfl
      · skip
        refine y_aload_n (q := 149) rfl rfl rfl ?_
        refine y_iconst (x := 2) (q := 150) rfl (by decide) rfl ?_
        refine y_putI (q := 153) rfl rfl (by decide) atM0 rfl rfl rfl rfl (fun g71 => ?_)
        refine y_aload_n (q := 154) rfl rfl rfl ?_
        refine y_lconst (u := 0) (q := 155) rfl (by decide) rfl ?_
        refine y_putL (q := 158) rfl rfl (by decide) atM0 rfl (by decide) rfl rfl rfl (fun g72 => ?_)
        refine y_iconst (x := 0) (q := 159) rfl (by decide) rfl ?_
        refine y_istore_n (lo' := [some (.ref 0), some (.int r11), some (.int 0)]) (q := 160) rfl (Nat.le_of_ble_eq_true rfl) rfl rfl ?_
        refine lz_X7_next_160 hd r11  _ (fun v2_86 g87 => ?_) fuel0 0 g72 
        refine y_aload_n (q := 236) rfl rfl rfl ?_
        refine y_iload_n (q := 237) rfl rfl rfl ?_
        refine y_iconst (x := 4) (q := 238) rfl (by decide) rfl ?_
        refine y_le (q := 245) (q' := 241) rfl rfl (by decide) rfl rfl (fun c88 => ?_) (fun c89 => ?_)
        · skip
          refine y_iconst (x := 4) (q := 242) rfl (by decide) rfl ?_
          refine y_goto (q := 246) rfl rfl ?_
          refine y_putI (q := 249) rfl rfl (by decide) atM0 rfl rfl rfl rfl (fun g90 => ?_)
          refine y_goto (q := 321) rfl rfl ?_
          exact y_retV rfl rfl rfl
        · skip
          refine y_iconst (x := 2) (q := 246) rfl (by decide) rfl ?_
          refine y_putI (q := 249) rfl rfl (by decide) atM0 rfl rfl rfl rfl (fun g91 => ?_)
          refine y_goto (q := 321) rfl rfl ?_
          exact y_retV rfl rfl rfl
    · skip
      refine y_aload_n (q := 96) rfl rfl rfl ?_
      refine y_iconst (x := 1) (q := 97) rfl (by decide) rfl ?_
      refine y_putI (q := 100) rfl rfl (by decide) atM0 rfl rfl rfl rfl (fun g92 => ?_)
      refine lz_X7_next_100 hd r11 (none)  _ (fun g98 => ?_) fuel0  g92 
      exact y_retV rfl rfl rfl
def f_X7_isSign (v1 : Int32) (h : dH) : Option (Int32) := if (h 0 27).toInt = 0 then (if (h 0 23).toInt = 3 then (if (dlcmp (h 0 25).toInt64 v1.toInt64).toInt = 0 then ((some 1)) else ((some 0))) else ((some 0))) else ((some 0))
theorem m_X7_isSign {d : Nat} (hd : 1 ≤ d) (v1 : Int32) (h : dH) : dX shM d 139 [.ref 0, .int v1] (dP h) (f_X7_isSign v1 h) h := by
  obtain ⟨e, rfl⟩ : ∃ e, d = e + 1 := ⟨d - 1, by omega⟩
  have hd : 0 ≤ e := by omega
  refine dX_of (mj := mj139) (lo := [some (.ref 0), some (.int v1)]) rfl (Nat.le_of_ble_eq_true rfl) rfl ?_
  unfold f_X7_isSign
  refine y_aload_n (q := 1) rfl rfl rfl ?_
  refine y_getI (q := 4) rfl rfl (by decide) atM0 rfl rfl ?_
  refine y_ne0 (q := 29) (q' := 7) rfl rfl rfl rfl (fun c1 => ?_) (fun c2 => ?_)
  · skip
    refine y_aload_n (q := 8) rfl rfl rfl ?_
    refine y_getI (q := 11) rfl rfl (by decide) atM0 rfl rfl ?_
    refine y_iconst (x := 3) (q := 12) rfl (by decide) rfl ?_
    refine y_ne (q := 29) (q' := 15) rfl rfl (by decide) rfl rfl (fun c3 => ?_) (fun c4 => ?_)
    · skip
      refine y_aload_n (q := 16) rfl rfl rfl ?_
      refine y_getL (q := 19) rfl rfl (by decide) atM0 rfl rfl ?_
      refine y_iload_n (q := 20) rfl rfl rfl ?_
      refine y_i2l (q := 21) rfl rfl ?_
      refine y_lcmp (q := 22) rfl rfl ?_
      refine y_ne0 (q := 29) (q' := 25) rfl rfl rfl rfl (fun c5 => ?_) (fun c6 => ?_)
      · skip
        refine y_iconst (x := 1) (q := 26) rfl (by decide) rfl ?_
        refine y_goto (q := 30) rfl rfl ?_
        exact y_retP rfl (by decide) rfl rfl
      · skip
        refine y_iconst (x := 0) (q := 30) rfl (by decide) rfl ?_
        exact y_retP rfl (by decide) rfl rfl
    · skip
      refine y_iconst (x := 0) (q := 30) rfl (by decide) rfl ?_
      exact y_retP rfl (by decide) rfl rfl
  · skip
    refine y_iconst (x := 0) (q := 30) rfl (by decide) rfl ?_
    exact y_retP rfl (by decide) rfl rfl
def f_X7_name  (h : dH) : Option (Int32 × dH) := oP (f_X7_isWord 115 116 114 101 110 103 116 104 h) (fun r1 => if r1.toInt = 0 then (oP (f_X7_isWord 110 117 109 98 101 114 0 0 h) (fun r4 => if r4.toInt = 0 then (oP (f_X7_isWord 111 116 104 101 114 0 0 0 h) (fun r7 => if r7.toInt = 0 then (oP (f_X7_isWord 115 101 97 116 115 0 0 0 h) (fun r10 => if r10.toInt = 0 then (oP (f_X7_isWord 121 101 97 114 0 0 0 0 h) (fun r13 => if r13.toInt = 0 then (oP (f_X7_isWord 97 112 97 114 116 0 0 0 h) (fun r16 => if r16.toInt = 0 then (oV (f_X7_fail  h) (fun g19 => some (0, g19))) else (some ((h 0 19), h)))) else (some ((h 0 18), h)))) else (some ((h 0 17), h)))) else (some ((h 0 16), h)))) else (some ((h 0 15), h)))) else (some ((h 0 14), h)))
theorem m_X7_name {d : Nat} (hd : 4 ≤ d)  (h : dH) : dX shM d 141 [.ref 0] dI (f_X7_name  h) h := by
  obtain ⟨e, rfl⟩ : ∃ e, d = e + 1 := ⟨d - 1, by omega⟩
  have hd : 3 ≤ e := by omega
  refine dX_of (mj := mj141) (lo := [some (.ref 0)]) rfl (Nat.le_of_ble_eq_true rfl) rfl ?_
  unfold f_X7_name
  refine y_aload_n (q := 1) rfl rfl rfl ?_
  refine y_bipush (x := 115) (q := 3) rfl (by decide) rfl ?_
  refine y_bipush (x := 116) (q := 5) rfl (by decide) rfl ?_
  refine y_bipush (x := 114) (q := 7) rfl (by decide) rfl ?_
  refine y_bipush (x := 101) (q := 9) rfl (by decide) rfl ?_
  refine y_bipush (x := 110) (q := 11) rfl (by decide) rfl ?_
  refine y_bipush (x := 103) (q := 13) rfl (by decide) rfl ?_
  refine y_bipush (x := 116) (q := 15) rfl (by decide) rfl ?_
  refine y_bipush (x := 104) (q := 17) rfl (by decide) rfl ?_
  refine y_callP (I := .invokevirtual 212) (idx := 212) (KD := 1) (J := 148) (mj := mj138) (as := [.ref 0, .int 115, .int 116, .int 114, .int 101, .int 110, .int 103, .int 116, .int 104]) (r := []) (q := 20) rfl (fun _ _ _ _ _ _ => rfl) rfl (by decide) rfl rfl rfl rfl rfl (Nat.le_of_ble_eq_true rfl) (d_recv atM0 (by decide) (by decide)) rfl (m_X7_isWord (Nat.le_trans (by decide) hd) 115 116 114 101 110 103 116 104 h) (fun r1 => ?_)
  refine y_eq0 (q := 28) (q' := 23) rfl rfl rfl rfl (fun c2 => ?_) (fun c3 => ?_)
  · skip
    refine y_aload_n (q := 29) rfl rfl rfl ?_
    refine y_bipush (x := 110) (q := 31) rfl (by decide) rfl ?_
    refine y_bipush (x := 117) (q := 33) rfl (by decide) rfl ?_
    refine y_bipush (x := 109) (q := 35) rfl (by decide) rfl ?_
    refine y_bipush (x := 98) (q := 37) rfl (by decide) rfl ?_
    refine y_bipush (x := 101) (q := 39) rfl (by decide) rfl ?_
    refine y_bipush (x := 114) (q := 41) rfl (by decide) rfl ?_
    refine y_iconst (x := 0) (q := 42) rfl (by decide) rfl ?_
    refine y_iconst (x := 0) (q := 43) rfl (by decide) rfl ?_
    refine y_callP (I := .invokevirtual 212) (idx := 212) (KD := 1) (J := 148) (mj := mj138) (as := [.ref 0, .int 110, .int 117, .int 109, .int 98, .int 101, .int 114, .int 0, .int 0]) (r := []) (q := 46) rfl (fun _ _ _ _ _ _ => rfl) rfl (by decide) rfl rfl rfl rfl rfl (Nat.le_of_ble_eq_true rfl) (d_recv atM0 (by decide) (by decide)) rfl (m_X7_isWord (Nat.le_trans (by decide) hd) 110 117 109 98 101 114 0 0 h) (fun r4 => ?_)
    refine y_eq0 (q := 54) (q' := 49) rfl rfl rfl rfl (fun c5 => ?_) (fun c6 => ?_)
    · skip
      refine y_aload_n (q := 55) rfl rfl rfl ?_
      refine y_bipush (x := 111) (q := 57) rfl (by decide) rfl ?_
      refine y_bipush (x := 116) (q := 59) rfl (by decide) rfl ?_
      refine y_bipush (x := 104) (q := 61) rfl (by decide) rfl ?_
      refine y_bipush (x := 101) (q := 63) rfl (by decide) rfl ?_
      refine y_bipush (x := 114) (q := 65) rfl (by decide) rfl ?_
      refine y_iconst (x := 0) (q := 66) rfl (by decide) rfl ?_
      refine y_iconst (x := 0) (q := 67) rfl (by decide) rfl ?_
      refine y_iconst (x := 0) (q := 68) rfl (by decide) rfl ?_
      refine y_callP (I := .invokevirtual 212) (idx := 212) (KD := 1) (J := 148) (mj := mj138) (as := [.ref 0, .int 111, .int 116, .int 104, .int 101, .int 114, .int 0, .int 0, .int 0]) (r := []) (q := 71) rfl (fun _ _ _ _ _ _ => rfl) rfl (by decide) rfl rfl rfl rfl rfl (Nat.le_of_ble_eq_true rfl) (d_recv atM0 (by decide) (by decide)) rfl (m_X7_isWord (Nat.le_trans (by decide) hd) 111 116 104 101 114 0 0 0 h) (fun r7 => ?_)
      refine y_eq0 (q := 79) (q' := 74) rfl rfl rfl rfl (fun c8 => ?_) (fun c9 => ?_)
      · skip
        refine y_aload_n (q := 80) rfl rfl rfl ?_
        refine y_bipush (x := 115) (q := 82) rfl (by decide) rfl ?_
        refine y_bipush (x := 101) (q := 84) rfl (by decide) rfl ?_
        refine y_bipush (x := 97) (q := 86) rfl (by decide) rfl ?_
        refine y_bipush (x := 116) (q := 88) rfl (by decide) rfl ?_
        refine y_bipush (x := 115) (q := 90) rfl (by decide) rfl ?_
        refine y_iconst (x := 0) (q := 91) rfl (by decide) rfl ?_
        refine y_iconst (x := 0) (q := 92) rfl (by decide) rfl ?_
        refine y_iconst (x := 0) (q := 93) rfl (by decide) rfl ?_
        refine y_callP (I := .invokevirtual 212) (idx := 212) (KD := 1) (J := 148) (mj := mj138) (as := [.ref 0, .int 115, .int 101, .int 97, .int 116, .int 115, .int 0, .int 0, .int 0]) (r := []) (q := 96) rfl (fun _ _ _ _ _ _ => rfl) rfl (by decide) rfl rfl rfl rfl rfl (Nat.le_of_ble_eq_true rfl) (d_recv atM0 (by decide) (by decide)) rfl (m_X7_isWord (Nat.le_trans (by decide) hd) 115 101 97 116 115 0 0 0 h) (fun r10 => ?_)
        refine y_eq0 (q := 104) (q' := 99) rfl rfl rfl rfl (fun c11 => ?_) (fun c12 => ?_)
        · skip
          refine y_aload_n (q := 105) rfl rfl rfl ?_
          refine y_bipush (x := 121) (q := 107) rfl (by decide) rfl ?_
          refine y_bipush (x := 101) (q := 109) rfl (by decide) rfl ?_
          refine y_bipush (x := 97) (q := 111) rfl (by decide) rfl ?_
          refine y_bipush (x := 114) (q := 113) rfl (by decide) rfl ?_
          refine y_iconst (x := 0) (q := 114) rfl (by decide) rfl ?_
          refine y_iconst (x := 0) (q := 115) rfl (by decide) rfl ?_
          refine y_iconst (x := 0) (q := 116) rfl (by decide) rfl ?_
          refine y_iconst (x := 0) (q := 117) rfl (by decide) rfl ?_
          refine y_callP (I := .invokevirtual 212) (idx := 212) (KD := 1) (J := 148) (mj := mj138) (as := [.ref 0, .int 121, .int 101, .int 97, .int 114, .int 0, .int 0, .int 0, .int 0]) (r := []) (q := 120) rfl (fun _ _ _ _ _ _ => rfl) rfl (by decide) rfl rfl rfl rfl rfl (Nat.le_of_ble_eq_true rfl) (d_recv atM0 (by decide) (by decide)) rfl (m_X7_isWord (Nat.le_trans (by decide) hd) 121 101 97 114 0 0 0 0 h) (fun r13 => ?_)
          refine y_eq0 (q := 128) (q' := 123) rfl rfl rfl rfl (fun c14 => ?_) (fun c15 => ?_)
          · skip
            refine y_aload_n (q := 129) rfl rfl rfl ?_
            refine y_bipush (x := 97) (q := 131) rfl (by decide) rfl ?_
            refine y_bipush (x := 112) (q := 133) rfl (by decide) rfl ?_
            refine y_bipush (x := 97) (q := 135) rfl (by decide) rfl ?_
            refine y_bipush (x := 114) (q := 137) rfl (by decide) rfl ?_
            refine y_bipush (x := 116) (q := 139) rfl (by decide) rfl ?_
            refine y_iconst (x := 0) (q := 140) rfl (by decide) rfl ?_
            refine y_iconst (x := 0) (q := 141) rfl (by decide) rfl ?_
            refine y_iconst (x := 0) (q := 142) rfl (by decide) rfl ?_
            refine y_callP (I := .invokevirtual 212) (idx := 212) (KD := 1) (J := 148) (mj := mj138) (as := [.ref 0, .int 97, .int 112, .int 97, .int 114, .int 116, .int 0, .int 0, .int 0]) (r := []) (q := 145) rfl (fun _ _ _ _ _ _ => rfl) rfl (by decide) rfl rfl rfl rfl rfl (Nat.le_of_ble_eq_true rfl) (d_recv atM0 (by decide) (by decide)) rfl (m_X7_isWord (Nat.le_trans (by decide) hd) 97 112 97 114 116 0 0 0 h) (fun r16 => ?_)
            refine y_eq0 (q := 153) (q' := 148) rfl rfl rfl rfl (fun c17 => ?_) (fun c18 => ?_)
            · skip
              refine y_aload_n (q := 154) rfl rfl rfl ?_
              refine y_callV (I := .invokevirtual 206) (idx := 206) (KD := 1) (J := 146) (mj := mj136) (as := [.ref 0]) (r := []) (q := 157) rfl (fun _ _ _ _ _ _ => rfl) rfl (by decide) rfl rfl rfl rfl rfl (Nat.le_of_ble_eq_true rfl) (d_recv atM0 (by decide) (by decide)) rfl (m_X7_fail (Nat.le_trans (by decide) hd)  h) (fun g19 => ?_)
              refine y_iconst (x := 0) (q := 158) rfl (by decide) rfl ?_
              exact y_retI rfl (by decide) rfl rfl
            · skip
              refine y_aload_n (q := 149) rfl rfl rfl ?_
              refine y_getI (q := 152) rfl rfl (by decide) atM0 rfl rfl ?_
              exact y_retI rfl (by decide) rfl rfl
          · skip
            refine y_aload_n (q := 124) rfl rfl rfl ?_
            refine y_getI (q := 127) rfl rfl (by decide) atM0 rfl rfl ?_
            exact y_retI rfl (by decide) rfl rfl
        · skip
          refine y_aload_n (q := 100) rfl rfl rfl ?_
          refine y_getI (q := 103) rfl rfl (by decide) atM0 rfl rfl ?_
          exact y_retI rfl (by decide) rfl rfl
      · skip
        refine y_aload_n (q := 75) rfl rfl rfl ?_
        refine y_getI (q := 78) rfl rfl (by decide) atM0 rfl rfl ?_
        exact y_retI rfl (by decide) rfl rfl
    · skip
      refine y_aload_n (q := 50) rfl rfl rfl ?_
      refine y_getI (q := 53) rfl rfl (by decide) atM0 rfl rfl ?_
      exact y_retI rfl (by decide) rfl rfl
  · skip
    refine y_aload_n (q := 24) rfl rfl rfl ?_
    refine y_getI (q := 27) rfl rfl (by decide) atM0 rfl rfl ?_
    exact y_retI rfl (by decide) rfl rfl
def f_X7_opens  (h : dH) : Option (Int32 × dH) := if (h 0 26).toInt = 5 then (oV (f_X7_fail  h) (fun g3 => some (0, g3))) else (oH (dU h 0 26 ((h 0 26) + 1)) (fun g4 => oV (f_X7_next  g4) (fun g5 => some (1, g5))))
theorem m_X7_opens {d : Nat} (hd : 3 ≤ d)  (h : dH) : dX shM d 140 [.ref 0] dI (f_X7_opens  h) h := by
  obtain ⟨e, rfl⟩ : ∃ e, d = e + 1 := ⟨d - 1, by omega⟩
  have hd : 2 ≤ e := by omega
  refine dX_of (mj := mj140) (lo := [some (.ref 0)]) rfl (Nat.le_of_ble_eq_true rfl) rfl ?_
  unfold f_X7_opens
  refine y_aload_n (q := 1) rfl rfl rfl ?_
  refine y_getI (q := 4) rfl rfl (by decide) atM0 rfl rfl ?_
  refine y_iconst (x := 5) (q := 5) rfl (by decide) rfl ?_
  refine y_ne (q := 14) (q' := 8) rfl rfl (by decide) rfl rfl (fun c1 => ?_) (fun c2 => ?_)
  · skip
    refine y_aload_n (q := 9) rfl rfl rfl ?_
    refine y_callV (I := .invokevirtual 206) (idx := 206) (KD := 1) (J := 146) (mj := mj136) (as := [.ref 0]) (r := []) (q := 12) rfl (fun _ _ _ _ _ _ => rfl) rfl (by decide) rfl rfl rfl rfl rfl (Nat.le_of_ble_eq_true rfl) (d_recv atM0 (by decide) (by decide)) rfl (m_X7_fail (Nat.le_trans (by decide) hd)  h) (fun g3 => ?_)
    refine y_iconst (x := 0) (q := 13) rfl (by decide) rfl ?_
    exact y_retI rfl (by decide) rfl rfl
  · skip
    refine y_aload_n (q := 15) rfl rfl rfl ?_
    refine y_dup (q := 16) rfl rfl ?_
    refine y_getI (q := 19) rfl rfl (by decide) atM0 rfl rfl ?_
    refine y_iconst (x := 1) (q := 20) rfl (by decide) rfl ?_
    refine y_iadd (q := 21) rfl rfl ?_
    refine y_putI (q := 24) rfl rfl (by decide) atM0 rfl rfl rfl rfl (fun g4 => ?_)
    refine y_aload_n (q := 25) rfl rfl rfl ?_
    refine y_callV (I := .invokevirtual 209) (idx := 209) (KD := 1) (J := 145) (mj := mj135) (as := [.ref 0]) (r := []) (q := 28) rfl (fun _ _ _ _ _ _ => rfl) rfl (by decide) rfl rfl rfl rfl rfl (Nat.le_of_ble_eq_true rfl) (d_recv atM0 (by decide) (by decide)) rfl (m_X7_next (Nat.le_trans (by decide) hd)  g4) (fun g5 => ?_)
    refine y_iconst (x := 1) (q := 29) rfl (by decide) rfl ?_
    exact y_retI rfl (by decide) rfl rfl
def f_X7_atom5  (h : dH) : Option (Int32 × dH) := oP (f_X7_isSign 45 h) (fun r1 => if r1.toInt = 0 then (oP (f_X7_isSign 40 h) (fun r4 => if r4.toInt = 0 then (if (h 0 27).toInt = 0 then (if (h 0 23).toInt = 2 then (oV (f_X7_next  h) (fun g11 => some ((h 0 25).toInt64.toInt32, g11))) else (if (h 0 27).toInt = 0 then (if (h 0 23).toInt = 1 then (oI (f_X7_name  h) (fun r16 g17 => if (g17 0 27).toInt = 0 then (oV (f_X7_next  g17) (fun g20 => some (r16, g20))) else (some (r16, g17)))) else (oV (f_X7_fail  h) (fun g21 => some (0, g21)))) else (oV (f_X7_fail  h) (fun g22 => some (0, g22))))) else (if (h 0 27).toInt = 0 then (if (h 0 23).toInt = 1 then (oI (f_X7_name  h) (fun r27 g28 => if (g28 0 27).toInt = 0 then (oV (f_X7_next  g28) (fun g31 => some (r27, g31))) else (some (r27, g28)))) else (oV (f_X7_fail  h) (fun g32 => some (0, g32)))) else (oV (f_X7_fail  h) (fun g33 => some (0, g33))))) else (oI (f_X7_opens  h) (fun r34 g35 => some (0, g35))))) else (oI (f_X7_opens  h) (fun r36 g37 => some (0, g37))))
theorem m_X7_atom5 {d : Nat} (hd : 5 ≤ d)  (h : dH) : dX shM d 142 [.ref 0] dI (f_X7_atom5  h) h := by
  obtain ⟨e, rfl⟩ : ∃ e, d = e + 1 := ⟨d - 1, by omega⟩
  have hd : 4 ≤ e := by omega
  refine dX_of (mj := mj142) (lo := [some (.ref 0), none]) rfl (Nat.le_of_ble_eq_true rfl) rfl ?_
  unfold f_X7_atom5
  refine y_iconst (x := 0) (q := 1) rfl (by decide) rfl ?_
  refine y_istore_n (lo' := [some (.ref 0), some (.int 0)]) (q := 2) rfl (Nat.le_of_ble_eq_true rfl) rfl rfl ?_
  refine y_aload_n (q := 3) rfl rfl rfl ?_
  refine y_bipush (x := 45) (q := 5) rfl (by decide) rfl ?_
  refine y_callP (I := .invokevirtual 234) (idx := 234) (KD := 1) (J := 149) (mj := mj139) (as := [.ref 0, .int 45]) (r := []) (q := 8) rfl (fun _ _ _ _ _ _ => rfl) rfl (by decide) rfl rfl rfl rfl rfl (Nat.le_of_ble_eq_true rfl) (d_recv atM0 (by decide) (by decide)) rfl (m_X7_isSign (Nat.le_trans (by decide) hd) 45 h) (fun r1 => ?_)
  refine y_eq0 (q := 19) (q' := 11) rfl rfl rfl rfl (fun c2 => ?_) (fun c3 => ?_)
  · skip
    refine y_aload_n (q := 20) rfl rfl rfl ?_
    refine y_bipush (x := 40) (q := 22) rfl (by decide) rfl ?_
    refine y_callP (I := .invokevirtual 234) (idx := 234) (KD := 1) (J := 149) (mj := mj139) (as := [.ref 0, .int 40]) (r := []) (q := 25) rfl (fun _ _ _ _ _ _ => rfl) rfl (by decide) rfl rfl rfl rfl rfl (Nat.le_of_ble_eq_true rfl) (d_recv atM0 (by decide) (by decide)) rfl (m_X7_isSign (Nat.le_trans (by decide) hd) 40 h) (fun r4 => ?_)
    refine y_eq0 (q := 36) (q' := 28) rfl rfl rfl rfl (fun c5 => ?_) (fun c6 => ?_)
    · skip
      refine y_aload_n (q := 37) rfl rfl rfl ?_
      refine y_getI (q := 40) rfl rfl (by decide) atM0 rfl rfl ?_
      refine y_ne0 (q := 64) (q' := 43) rfl rfl rfl rfl (fun c7 => ?_) (fun c8 => ?_)
      · skip
        refine y_aload_n (q := 44) rfl rfl rfl ?_
        refine y_getI (q := 47) rfl rfl (by decide) atM0 rfl rfl ?_
        refine y_iconst (x := 2) (q := 48) rfl (by decide) rfl ?_
        refine y_ne (q := 64) (q' := 51) rfl rfl (by decide) rfl rfl (fun c9 => ?_) (fun c10 => ?_)
        · skip
          refine y_aload_n (q := 52) rfl rfl rfl ?_
          refine y_getL (q := 55) rfl rfl (by decide) atM0 rfl rfl ?_
          refine y_l2i (q := 56) rfl rfl ?_
          refine y_istore_n (lo' := [some (.ref 0), some (.int (h 0 25).toInt64.toInt32)]) (q := 57) rfl (Nat.le_of_ble_eq_true rfl) rfl rfl ?_
          refine y_aload_n (q := 58) rfl rfl rfl ?_
          refine y_callV (I := .invokevirtual 209) (idx := 209) (KD := 1) (J := 145) (mj := mj135) (as := [.ref 0]) (r := []) (q := 61) rfl (fun _ _ _ _ _ _ => rfl) rfl (by decide) rfl rfl rfl rfl rfl (Nat.le_of_ble_eq_true rfl) (d_recv atM0 (by decide) (by decide)) rfl (m_X7_next (Nat.le_trans (by decide) hd)  h) (fun g11 => ?_)
          refine y_goto (q := 102) rfl rfl ?_
          refine y_iload_n (q := 103) rfl rfl rfl ?_
          exact y_retI rfl (by decide) rfl rfl
        · skip
          refine y_aload_n (q := 65) rfl rfl rfl ?_
          refine y_getI (q := 68) rfl rfl (by decide) atM0 rfl rfl ?_
          refine y_ne0 (q := 98) (q' := 71) rfl rfl rfl rfl (fun c12 => ?_) (fun c13 => ?_)
          · skip
            refine y_aload_n (q := 72) rfl rfl rfl ?_
            refine y_getI (q := 75) rfl rfl (by decide) atM0 rfl rfl ?_
            refine y_iconst (x := 1) (q := 76) rfl (by decide) rfl ?_
            refine y_ne (q := 98) (q' := 79) rfl rfl (by decide) rfl rfl (fun c14 => ?_) (fun c15 => ?_)
            · skip
              refine y_aload_n (q := 80) rfl rfl rfl ?_
              refine y_callI (I := .invokevirtual 241) (idx := 241) (KD := 1) (J := 151) (mj := mj141) (as := [.ref 0]) (r := []) (q := 83) rfl (fun _ _ _ _ _ _ => rfl) rfl (by decide) rfl rfl rfl rfl rfl (Nat.le_of_ble_eq_true rfl) (d_recv atM0 (by decide) (by decide)) rfl (m_X7_name (Nat.le_trans (by decide) hd)  h) (fun r16 g17 => ?_)
              refine y_istore_n (lo' := [some (.ref 0), some (.int r16)]) (q := 84) rfl (Nat.le_of_ble_eq_true rfl) rfl rfl ?_
              refine y_aload_n (q := 85) rfl rfl rfl ?_
              refine y_getI (q := 88) rfl rfl (by decide) atM0 rfl rfl ?_
              refine y_ne0 (q := 102) (q' := 91) rfl rfl rfl rfl (fun c18 => ?_) (fun c19 => ?_)
              · skip
                refine y_aload_n (q := 92) rfl rfl rfl ?_
                refine y_callV (I := .invokevirtual 209) (idx := 209) (KD := 1) (J := 145) (mj := mj135) (as := [.ref 0]) (r := []) (q := 95) rfl (fun _ _ _ _ _ _ => rfl) rfl (by decide) rfl rfl rfl rfl rfl (Nat.le_of_ble_eq_true rfl) (d_recv atM0 (by decide) (by decide)) rfl (m_X7_next (Nat.le_trans (by decide) hd)  g17) (fun g20 => ?_)
                refine y_goto (q := 102) rfl rfl ?_
                refine y_iload_n (q := 103) rfl rfl rfl ?_
                exact y_retI rfl (by decide) rfl rfl
              · skip
                refine y_iload_n (q := 103) rfl rfl rfl ?_
                exact y_retI rfl (by decide) rfl rfl
            · skip
              refine y_aload_n (q := 99) rfl rfl rfl ?_
              refine y_callV (I := .invokevirtual 206) (idx := 206) (KD := 1) (J := 146) (mj := mj136) (as := [.ref 0]) (r := []) (q := 102) rfl (fun _ _ _ _ _ _ => rfl) rfl (by decide) rfl rfl rfl rfl rfl (Nat.le_of_ble_eq_true rfl) (d_recv atM0 (by decide) (by decide)) rfl (m_X7_fail (Nat.le_trans (by decide) hd)  h) (fun g21 => ?_)
              refine y_iload_n (q := 103) rfl rfl rfl ?_
              exact y_retI rfl (by decide) rfl rfl
          · skip
            refine y_aload_n (q := 99) rfl rfl rfl ?_
            refine y_callV (I := .invokevirtual 206) (idx := 206) (KD := 1) (J := 146) (mj := mj136) (as := [.ref 0]) (r := []) (q := 102) rfl (fun _ _ _ _ _ _ => rfl) rfl (by decide) rfl rfl rfl rfl rfl (Nat.le_of_ble_eq_true rfl) (d_recv atM0 (by decide) (by decide)) rfl (m_X7_fail (Nat.le_trans (by decide) hd)  h) (fun g22 => ?_)
            refine y_iload_n (q := 103) rfl rfl rfl ?_
            exact y_retI rfl (by decide) rfl rfl
      · skip
        refine y_aload_n (q := 65) rfl rfl rfl ?_
        refine y_getI (q := 68) rfl rfl (by decide) atM0 rfl rfl ?_
        refine y_ne0 (q := 98) (q' := 71) rfl rfl rfl rfl (fun c23 => ?_) (fun c24 => ?_)
        · skip
          refine y_aload_n (q := 72) rfl rfl rfl ?_
          refine y_getI (q := 75) rfl rfl (by decide) atM0 rfl rfl ?_
          refine y_iconst (x := 1) (q := 76) rfl (by decide) rfl ?_
          refine y_ne (q := 98) (q' := 79) rfl rfl (by decide) rfl rfl (fun c25 => ?_) (fun c26 => ?_)
          · skip
            refine y_aload_n (q := 80) rfl rfl rfl ?_
            refine y_callI (I := .invokevirtual 241) (idx := 241) (KD := 1) (J := 151) (mj := mj141) (as := [.ref 0]) (r := []) (q := 83) rfl (fun _ _ _ _ _ _ => rfl) rfl (by decide) rfl rfl rfl rfl rfl (Nat.le_of_ble_eq_true rfl) (d_recv atM0 (by decide) (by decide)) rfl (m_X7_name (Nat.le_trans (by decide) hd)  h) (fun r27 g28 => ?_)
            refine y_istore_n (lo' := [some (.ref 0), some (.int r27)]) (q := 84) rfl (Nat.le_of_ble_eq_true rfl) rfl rfl ?_
            refine y_aload_n (q := 85) rfl rfl rfl ?_
            refine y_getI (q := 88) rfl rfl (by decide) atM0 rfl rfl ?_
            refine y_ne0 (q := 102) (q' := 91) rfl rfl rfl rfl (fun c29 => ?_) (fun c30 => ?_)
            · skip
              refine y_aload_n (q := 92) rfl rfl rfl ?_
              refine y_callV (I := .invokevirtual 209) (idx := 209) (KD := 1) (J := 145) (mj := mj135) (as := [.ref 0]) (r := []) (q := 95) rfl (fun _ _ _ _ _ _ => rfl) rfl (by decide) rfl rfl rfl rfl rfl (Nat.le_of_ble_eq_true rfl) (d_recv atM0 (by decide) (by decide)) rfl (m_X7_next (Nat.le_trans (by decide) hd)  g28) (fun g31 => ?_)
              refine y_goto (q := 102) rfl rfl ?_
              refine y_iload_n (q := 103) rfl rfl rfl ?_
              exact y_retI rfl (by decide) rfl rfl
            · skip
              refine y_iload_n (q := 103) rfl rfl rfl ?_
              exact y_retI rfl (by decide) rfl rfl
          · skip
            refine y_aload_n (q := 99) rfl rfl rfl ?_
            refine y_callV (I := .invokevirtual 206) (idx := 206) (KD := 1) (J := 146) (mj := mj136) (as := [.ref 0]) (r := []) (q := 102) rfl (fun _ _ _ _ _ _ => rfl) rfl (by decide) rfl rfl rfl rfl rfl (Nat.le_of_ble_eq_true rfl) (d_recv atM0 (by decide) (by decide)) rfl (m_X7_fail (Nat.le_trans (by decide) hd)  h) (fun g32 => ?_)
            refine y_iload_n (q := 103) rfl rfl rfl ?_
            exact y_retI rfl (by decide) rfl rfl
        · skip
          refine y_aload_n (q := 99) rfl rfl rfl ?_
          refine y_callV (I := .invokevirtual 206) (idx := 206) (KD := 1) (J := 146) (mj := mj136) (as := [.ref 0]) (r := []) (q := 102) rfl (fun _ _ _ _ _ _ => rfl) rfl (by decide) rfl rfl rfl rfl rfl (Nat.le_of_ble_eq_true rfl) (d_recv atM0 (by decide) (by decide)) rfl (m_X7_fail (Nat.le_trans (by decide) hd)  h) (fun g33 => ?_)
          refine y_iload_n (q := 103) rfl rfl rfl ?_
          exact y_retI rfl (by decide) rfl rfl
    · skip
      refine y_aload_n (q := 29) rfl rfl rfl ?_
      refine y_callI (I := .invokevirtual 237) (idx := 237) (KD := 1) (J := 150) (mj := mj140) (as := [.ref 0]) (r := []) (q := 32) rfl (fun _ _ _ _ _ _ => rfl) rfl (by decide) rfl rfl rfl rfl rfl (Nat.le_of_ble_eq_true rfl) (d_recv atM0 (by decide) (by decide)) rfl (m_X7_opens (Nat.le_trans (by decide) hd)  h) (fun r34 g35 => ?_)
      refine y_pop (q := 33) rfl rfl ?_
      refine y_goto (q := 102) rfl rfl ?_
      refine y_iload_n (q := 103) rfl rfl rfl ?_
      exact y_retI rfl (by decide) rfl rfl
  · skip
    refine y_aload_n (q := 12) rfl rfl rfl ?_
    refine y_callI (I := .invokevirtual 237) (idx := 237) (KD := 1) (J := 150) (mj := mj140) (as := [.ref 0]) (r := []) (q := 15) rfl (fun _ _ _ _ _ _ => rfl) rfl (by decide) rfl rfl rfl rfl rfl (Nat.le_of_ble_eq_true rfl) (d_recv atM0 (by decide) (by decide)) rfl (m_X7_opens (Nat.le_trans (by decide) hd)  h) (fun r36 g37 => ?_)
    refine y_pop (q := 16) rfl rfl ?_
    refine y_goto (q := 102) rfl rfl ?_
    refine y_iload_n (q := 103) rfl rfl rfl ?_
    exact y_retI rfl (by decide) rfl rfl
def l_X7_term5_5  (k : Int32 → dH → Option (Int32 × dH)) : Nat → Int32 → dH → Option (Int32 × dH)
  | 0, _, _ => none
  | n + 1, v1, h => oP (f_X7_isSign 42 h) (fun r3 => if r3.toInt = 0 then (k v1 h) else (oV (f_X7_next  h) (fun g6 => oI (f_X7_atom5  g6) (fun r7 g8 => l_X7_term5_5  k n (v1 * r7) g8))))
theorem lz_X7_term5_5 {d : Nat} (hd : 5 ≤ d)  (k : Int32 → dH → Option (Int32 × dH)) (hk : ∀ (v1 : Int32) (h : dH), dY shM d mj143 dI (k v1 h) 28 [some (.ref 0), some (.int v1)] [] h) : ∀ (n : Nat) (v1 : Int32) (h : dH), dY shM d mj143 dI (l_X7_term5_5  k n v1 h) 5 [some (.ref 0), some (.int v1)] [] h
  | 0, _, _ => dY_none
  | n + 1, v1, h => by
    rw [l_X7_term5_5]
    refine y_aload_n (q := 6) rfl rfl rfl ?_
    refine y_bipush (x := 42) (q := 8) rfl (by decide) rfl ?_
    refine y_callP (I := .invokevirtual 234) (idx := 234) (KD := 1) (J := 149) (mj := mj139) (as := [.ref 0, .int 42]) (r := []) (q := 11) rfl (fun _ _ _ _ _ _ => rfl) rfl (by decide) rfl rfl rfl rfl rfl (Nat.le_of_ble_eq_true rfl) (d_recv atM0 (by decide) (by decide)) rfl (m_X7_isSign (Nat.le_trans (by decide) hd) 42 h) (fun r3 => ?_)
    refine y_eq0 (q := 28) (q' := 14) rfl rfl rfl rfl (fun c4 => ?_) (fun c5 => ?_)
    · skip
      exact hk v1  h
    · skip
      refine y_aload_n (q := 15) rfl rfl rfl ?_
      refine y_callV (I := .invokevirtual 209) (idx := 209) (KD := 1) (J := 145) (mj := mj135) (as := [.ref 0]) (r := []) (q := 18) rfl (fun _ _ _ _ _ _ => rfl) rfl (by decide) rfl rfl rfl rfl rfl (Nat.le_of_ble_eq_true rfl) (d_recv atM0 (by decide) (by decide)) rfl (m_X7_next (Nat.le_trans (by decide) hd)  h) (fun g6 => ?_)
      refine y_iload_n (q := 19) rfl rfl rfl ?_
      refine y_aload_n (q := 20) rfl rfl rfl ?_
      refine y_callI (I := .invokevirtual 245) (idx := 245) (KD := 1) (J := 152) (mj := mj142) (as := [.ref 0]) (r := [.int v1]) (q := 23) rfl (fun _ _ _ _ _ _ => rfl) rfl (by decide) rfl rfl rfl rfl rfl (Nat.le_of_ble_eq_true rfl) (d_recv atM0 (by decide) (by decide)) rfl (m_X7_atom5 (Nat.le_trans (by decide) hd)  g6) (fun r7 g8 => ?_)
      refine y_imul (q := 24) rfl rfl ?_
      refine y_istore_n (lo' := [some (.ref 0), some (.int (v1 * r7))]) (q := 25) rfl (Nat.le_of_ble_eq_true rfl) rfl rfl ?_
      refine y_goto (q := 5) rfl rfl ?_
      exact lz_X7_term5_5 hd  k hk n (v1 * r7) g8 
def f_X7_term5  (h : dH) : Option (Int32 × dH) := oI (f_X7_atom5  h) (fun r1 g2 => l_X7_term5_5   (fun v1_9 g10 => some (v1_9, g10)) fuel0 r1 g2)
theorem m_X7_term5 {d : Nat} (hd : 6 ≤ d)  (h : dH) : dX shM d 143 [.ref 0] dI (f_X7_term5  h) h := by
  obtain ⟨e, rfl⟩ : ∃ e, d = e + 1 := ⟨d - 1, by omega⟩
  have hd : 5 ≤ e := by omega
  refine dX_of (mj := mj143) (lo := [some (.ref 0), none]) rfl (Nat.le_of_ble_eq_true rfl) rfl ?_
  unfold f_X7_term5
  refine y_aload_n (q := 1) rfl rfl rfl ?_
  refine y_callI (I := .invokevirtual 245) (idx := 245) (KD := 1) (J := 152) (mj := mj142) (as := [.ref 0]) (r := []) (q := 4) rfl (fun _ _ _ _ _ _ => rfl) rfl (by decide) rfl rfl rfl rfl rfl (Nat.le_of_ble_eq_true rfl) (d_recv atM0 (by decide) (by decide)) rfl (m_X7_atom5 (Nat.le_trans (by decide) hd)  h) (fun r1 g2 => ?_)
  refine y_istore_n (lo' := [some (.ref 0), some (.int r1)]) (q := 5) rfl (Nat.le_of_ble_eq_true rfl) rfl rfl ?_
  refine lz_X7_term5_5 hd   _ (fun v1_9 g10 => ?_) fuel0 r1 g2 
  refine y_iload_n (q := 29) rfl rfl rfl ?_
  exact y_retI rfl (by decide) rfl rfl
def l_X7_added5_5  (k : Int32 → dH → Option (Int32 × dH)) : Nat → Int32 → dH → Option (Int32 × dH)
  | 0, _, _ => none
  | n + 1, v1, h => oP (f_X7_isSign 43 h) (fun r3 => if r3.toInt = 0 then (oP (f_X7_isSign 45 h) (fun r6 => if r6.toInt = 0 then (k v1 h) else (if (dlcmp (h 0 25).toInt64 43).toInt = 0 then (oV (f_X7_next  h) (fun g11 => oI (f_X7_term5  g11) (fun r12 g13 => l_X7_added5_5  k n (v1 + r12) g13))) else (oV (f_X7_next  h) (fun g14 => oI (f_X7_term5  g14) (fun r15 g16 => l_X7_added5_5  k n (v1 - r15) g16)))))) else (if (dlcmp (h 0 25).toInt64 43).toInt = 0 then (oV (f_X7_next  h) (fun g19 => oI (f_X7_term5  g19) (fun r20 g21 => l_X7_added5_5  k n (v1 + r20) g21))) else (oV (f_X7_next  h) (fun g22 => oI (f_X7_term5  g22) (fun r23 g24 => l_X7_added5_5  k n (v1 - r23) g24)))))
theorem lz_X7_added5_5 {d : Nat} (hd : 6 ≤ d)  (k : Int32 → dH → Option (Int32 × dH)) (hk : ∀ (v1 : Int32) (z2 : Option Value) (z3 : Option Value) (h : dH), dY shM d mj144 dI (k v1 h) 66 [some (.ref 0), some (.int v1), z2, z3] [] h) : ∀ (n : Nat) (v1 : Int32) (h : dH) (z2 : Option Value) (z3 : Option Value), dY shM d mj144 dI (l_X7_added5_5  k n v1 h) 5 [some (.ref 0), some (.int v1), z2, z3] [] h
  | 0, _, _, _, _ => dY_none
  | n + 1, v1, h, z2, z3 => by
    rw [l_X7_added5_5]
    refine y_aload_n (q := 6) rfl rfl rfl ?_
    refine y_bipush (x := 43) (q := 8) rfl (by decide) rfl ?_
    refine y_callP (I := .invokevirtual 234) (idx := 234) (KD := 1) (J := 149) (mj := mj139) (as := [.ref 0, .int 43]) (r := []) (q := 11) rfl (fun _ _ _ _ _ _ => rfl) rfl (by decide) rfl rfl rfl rfl rfl (Nat.le_of_ble_eq_true rfl) (d_recv atM0 (by decide) (by decide)) rfl (m_X7_isSign (Nat.le_trans (by decide) hd) 43 h) (fun r3 => ?_)
    refine y_ne0 (q := 23) (q' := 14) rfl rfl rfl rfl (fun c4 => ?_) (fun c5 => ?_)
    · skip
      refine y_aload_n (q := 15) rfl rfl rfl ?_
      refine y_bipush (x := 45) (q := 17) rfl (by decide) rfl ?_
      refine y_callP (I := .invokevirtual 234) (idx := 234) (KD := 1) (J := 149) (mj := mj139) (as := [.ref 0, .int 45]) (r := []) (q := 20) rfl (fun _ _ _ _ _ _ => rfl) rfl (by decide) rfl rfl rfl rfl rfl (Nat.le_of_ble_eq_true rfl) (d_recv atM0 (by decide) (by decide)) rfl (m_X7_isSign (Nat.le_trans (by decide) hd) 45 h) (fun r6 => ?_)
      refine y_eq0 (q := 66) (q' := 23) rfl rfl rfl rfl (fun c7 => ?_) (fun c8 => ?_)
      · skip
        exact hk v1 (z2) (z3) h
      · skip
        refine y_aload_n (q := 24) rfl rfl rfl ?_
        refine y_getL (q := 27) rfl rfl (by decide) atM0 rfl rfl ?_
        refine y_ldc2_w (u := 43) (q := 30) rfl rfl rfl ?_
        refine y_lcmp (q := 31) rfl rfl ?_
        refine y_ne0 (q := 38) (q' := 34) rfl rfl rfl rfl (fun c9 => ?_) (fun c10 => ?_)
        · skip
          refine y_iconst (x := 1) (q := 35) rfl (by decide) rfl ?_
          refine y_goto (q := 39) rfl rfl ?_
          refine y_istore_n (lo' := [some (.ref 0), some (.int v1), some (.int 1), z3]) (q := 40) rfl (Nat.le_of_ble_eq_true rfl) rfl rfl ?_
          refine y_aload_n (q := 41) rfl rfl rfl ?_
          refine y_callV (I := .invokevirtual 209) (idx := 209) (KD := 1) (J := 145) (mj := mj135) (as := [.ref 0]) (r := []) (q := 44) rfl (fun _ _ _ _ _ _ => rfl) rfl (by decide) rfl rfl rfl rfl rfl (Nat.le_of_ble_eq_true rfl) (d_recv atM0 (by decide) (by decide)) rfl (m_X7_next (Nat.le_trans (by decide) hd)  h) (fun g11 => ?_)
          refine y_aload_n (q := 45) rfl rfl rfl ?_
          refine y_callI (I := .invokevirtual 248) (idx := 248) (KD := 1) (J := 153) (mj := mj143) (as := [.ref 0]) (r := []) (q := 48) rfl (fun _ _ _ _ _ _ => rfl) rfl (by decide) rfl rfl rfl rfl rfl (Nat.le_of_ble_eq_true rfl) (d_recv atM0 (by decide) (by decide)) rfl (m_X7_term5 (Nat.le_trans (by decide) hd)  g11) (fun r12 g13 => ?_)
          refine y_istore_n (lo' := [some (.ref 0), some (.int v1), some (.int 1), some (.int r12)]) (q := 49) rfl (Nat.le_of_ble_eq_true rfl) rfl rfl ?_
          refine y_iload_n (q := 50) rfl rfl rfl ?_
          refine y_ifF (q := 53) rfl (by decide) rfl rfl ?_
          refine y_iload_n (q := 54) rfl rfl rfl ?_
          refine y_iload_n (q := 55) rfl rfl rfl ?_
          refine y_iadd (q := 56) rfl rfl ?_
          refine y_goto (q := 62) rfl rfl ?_
          refine y_istore_n (lo' := [some (.ref 0), some (.int (v1 + r12)), some (.int 1), some (.int r12)]) (q := 63) rfl (Nat.le_of_ble_eq_true rfl) rfl rfl ?_
          refine y_goto (q := 5) rfl rfl ?_
          exact lz_X7_added5_5 hd  k hk n (v1 + r12) g13 (some (.int 1)) (some (.int r12))
        · skip
          refine y_iconst (x := 0) (q := 39) rfl (by decide) rfl ?_
          refine y_istore_n (lo' := [some (.ref 0), some (.int v1), some (.int 0), z3]) (q := 40) rfl (Nat.le_of_ble_eq_true rfl) rfl rfl ?_
          refine y_aload_n (q := 41) rfl rfl rfl ?_
          refine y_callV (I := .invokevirtual 209) (idx := 209) (KD := 1) (J := 145) (mj := mj135) (as := [.ref 0]) (r := []) (q := 44) rfl (fun _ _ _ _ _ _ => rfl) rfl (by decide) rfl rfl rfl rfl rfl (Nat.le_of_ble_eq_true rfl) (d_recv atM0 (by decide) (by decide)) rfl (m_X7_next (Nat.le_trans (by decide) hd)  h) (fun g14 => ?_)
          refine y_aload_n (q := 45) rfl rfl rfl ?_
          refine y_callI (I := .invokevirtual 248) (idx := 248) (KD := 1) (J := 153) (mj := mj143) (as := [.ref 0]) (r := []) (q := 48) rfl (fun _ _ _ _ _ _ => rfl) rfl (by decide) rfl rfl rfl rfl rfl (Nat.le_of_ble_eq_true rfl) (d_recv atM0 (by decide) (by decide)) rfl (m_X7_term5 (Nat.le_trans (by decide) hd)  g14) (fun r15 g16 => ?_)
          refine y_istore_n (lo' := [some (.ref 0), some (.int v1), some (.int 0), some (.int r15)]) (q := 49) rfl (Nat.le_of_ble_eq_true rfl) rfl rfl ?_
          refine y_iload_n (q := 50) rfl rfl rfl ?_
          refine y_ifT (q := 59) rfl (by decide) rfl ?_
          refine y_iload_n (q := 60) rfl rfl rfl ?_
          refine y_iload_n (q := 61) rfl rfl rfl ?_
          refine y_isub (q := 62) rfl rfl ?_
          refine y_istore_n (lo' := [some (.ref 0), some (.int (v1 - r15)), some (.int 0), some (.int r15)]) (q := 63) rfl (Nat.le_of_ble_eq_true rfl) rfl rfl ?_
          refine y_goto (q := 5) rfl rfl ?_
          exact lz_X7_added5_5 hd  k hk n (v1 - r15) g16 (some (.int 0)) (some (.int r15))
    · skip
      refine y_aload_n (q := 24) rfl rfl rfl ?_
      refine y_getL (q := 27) rfl rfl (by decide) atM0 rfl rfl ?_
      refine y_ldc2_w (u := 43) (q := 30) rfl rfl rfl ?_
      refine y_lcmp (q := 31) rfl rfl ?_
      refine y_ne0 (q := 38) (q' := 34) rfl rfl rfl rfl (fun c17 => ?_) (fun c18 => ?_)
      · skip
        refine y_iconst (x := 1) (q := 35) rfl (by decide) rfl ?_
        refine y_goto (q := 39) rfl rfl ?_
        refine y_istore_n (lo' := [some (.ref 0), some (.int v1), some (.int 1), z3]) (q := 40) rfl (Nat.le_of_ble_eq_true rfl) rfl rfl ?_
        refine y_aload_n (q := 41) rfl rfl rfl ?_
        refine y_callV (I := .invokevirtual 209) (idx := 209) (KD := 1) (J := 145) (mj := mj135) (as := [.ref 0]) (r := []) (q := 44) rfl (fun _ _ _ _ _ _ => rfl) rfl (by decide) rfl rfl rfl rfl rfl (Nat.le_of_ble_eq_true rfl) (d_recv atM0 (by decide) (by decide)) rfl (m_X7_next (Nat.le_trans (by decide) hd)  h) (fun g19 => ?_)
        refine y_aload_n (q := 45) rfl rfl rfl ?_
        refine y_callI (I := .invokevirtual 248) (idx := 248) (KD := 1) (J := 153) (mj := mj143) (as := [.ref 0]) (r := []) (q := 48) rfl (fun _ _ _ _ _ _ => rfl) rfl (by decide) rfl rfl rfl rfl rfl (Nat.le_of_ble_eq_true rfl) (d_recv atM0 (by decide) (by decide)) rfl (m_X7_term5 (Nat.le_trans (by decide) hd)  g19) (fun r20 g21 => ?_)
        refine y_istore_n (lo' := [some (.ref 0), some (.int v1), some (.int 1), some (.int r20)]) (q := 49) rfl (Nat.le_of_ble_eq_true rfl) rfl rfl ?_
        refine y_iload_n (q := 50) rfl rfl rfl ?_
        refine y_ifF (q := 53) rfl (by decide) rfl rfl ?_
        refine y_iload_n (q := 54) rfl rfl rfl ?_
        refine y_iload_n (q := 55) rfl rfl rfl ?_
        refine y_iadd (q := 56) rfl rfl ?_
        refine y_goto (q := 62) rfl rfl ?_
        refine y_istore_n (lo' := [some (.ref 0), some (.int (v1 + r20)), some (.int 1), some (.int r20)]) (q := 63) rfl (Nat.le_of_ble_eq_true rfl) rfl rfl ?_
        refine y_goto (q := 5) rfl rfl ?_
        exact lz_X7_added5_5 hd  k hk n (v1 + r20) g21 (some (.int 1)) (some (.int r20))
      · skip
        refine y_iconst (x := 0) (q := 39) rfl (by decide) rfl ?_
        refine y_istore_n (lo' := [some (.ref 0), some (.int v1), some (.int 0), z3]) (q := 40) rfl (Nat.le_of_ble_eq_true rfl) rfl rfl ?_
        refine y_aload_n (q := 41) rfl rfl rfl ?_
        refine y_callV (I := .invokevirtual 209) (idx := 209) (KD := 1) (J := 145) (mj := mj135) (as := [.ref 0]) (r := []) (q := 44) rfl (fun _ _ _ _ _ _ => rfl) rfl (by decide) rfl rfl rfl rfl rfl (Nat.le_of_ble_eq_true rfl) (d_recv atM0 (by decide) (by decide)) rfl (m_X7_next (Nat.le_trans (by decide) hd)  h) (fun g22 => ?_)
        refine y_aload_n (q := 45) rfl rfl rfl ?_
        refine y_callI (I := .invokevirtual 248) (idx := 248) (KD := 1) (J := 153) (mj := mj143) (as := [.ref 0]) (r := []) (q := 48) rfl (fun _ _ _ _ _ _ => rfl) rfl (by decide) rfl rfl rfl rfl rfl (Nat.le_of_ble_eq_true rfl) (d_recv atM0 (by decide) (by decide)) rfl (m_X7_term5 (Nat.le_trans (by decide) hd)  g22) (fun r23 g24 => ?_)
        refine y_istore_n (lo' := [some (.ref 0), some (.int v1), some (.int 0), some (.int r23)]) (q := 49) rfl (Nat.le_of_ble_eq_true rfl) rfl rfl ?_
        refine y_iload_n (q := 50) rfl rfl rfl ?_
        refine y_ifT (q := 59) rfl (by decide) rfl ?_
        refine y_iload_n (q := 60) rfl rfl rfl ?_
        refine y_iload_n (q := 61) rfl rfl rfl ?_
        refine y_isub (q := 62) rfl rfl ?_
        refine y_istore_n (lo' := [some (.ref 0), some (.int (v1 - r23)), some (.int 0), some (.int r23)]) (q := 63) rfl (Nat.le_of_ble_eq_true rfl) rfl rfl ?_
        refine y_goto (q := 5) rfl rfl ?_
        exact lz_X7_added5_5 hd  k hk n (v1 - r23) g24 (some (.int 0)) (some (.int r23))
def f_X7_added5  (h : dH) : Option (Int32 × dH) := oI (f_X7_term5  h) (fun r1 g2 => l_X7_added5_5   (fun v1_25 g28 => some (v1_25, g28)) fuel0 r1 g2)
theorem m_X7_added5 {d : Nat} (hd : 7 ≤ d)  (h : dH) : dX shM d 144 [.ref 0] dI (f_X7_added5  h) h := by
  obtain ⟨e, rfl⟩ : ∃ e, d = e + 1 := ⟨d - 1, by omega⟩
  have hd : 6 ≤ e := by omega
  refine dX_of (mj := mj144) (lo := [some (.ref 0), none, none, none]) rfl (Nat.le_of_ble_eq_true rfl) rfl ?_
  unfold f_X7_added5
  refine y_aload_n (q := 1) rfl rfl rfl ?_
  refine y_callI (I := .invokevirtual 248) (idx := 248) (KD := 1) (J := 153) (mj := mj143) (as := [.ref 0]) (r := []) (q := 4) rfl (fun _ _ _ _ _ _ => rfl) rfl (by decide) rfl rfl rfl rfl rfl (Nat.le_of_ble_eq_true rfl) (d_recv atM0 (by decide) (by decide)) rfl (m_X7_term5 (Nat.le_trans (by decide) hd)  h) (fun r1 g2 => ?_)
  refine y_istore_n (lo' := [some (.ref 0), some (.int r1), none, none]) (q := 5) rfl (Nat.le_of_ble_eq_true rfl) rfl rfl ?_
  refine lz_X7_added5_5 hd   _ (fun v1_25 z26 z27 g28 => ?_) fuel0 r1 g2 (none) (none)
  refine y_iload_n (q := 67) rfl rfl rfl ?_
  exact y_retI rfl (by decide) rfl rfl
end
end

section
/-! X7_not5, X7_both5, X7_either5, X7_atom4, X7_term4, X7_added4, X7_not4, X7_both4, X7_either4, X7_atom3, X7_term3, X7_added3, X7_not3, X7_both3 (by program) -/
noncomputable section
def f_X7_not5  (h : dH) : Option (Int32 × dH) := oP (f_X7_isWord 110 111 116 0 0 0 0 0 h) (fun r1 => if r1.toInt = 0 then (oI (f_X7_added5  h) (fun r4 g5 => oP (f_X7_isSign 60 g5) (fun r6 => if r6.toInt = 0 then (oP (f_X7_isSign 61 g5) (fun r9 => if r9.toInt = 0 then (some (r4, g5)) else (if (dlcmp (g5 0 25).toInt64 60).toInt = 0 then (oV (f_X7_next  g5) (fun g14 => oI (f_X7_added5  g14) (fun r15 g16 => if r4.toInt < r15.toInt then (some (1, g16)) else (some (0, g16))))) else (oV (f_X7_next  g5) (fun g19 => oI (f_X7_added5  g19) (fun r20 g21 => if r4.toInt = r20.toInt then (some (1, g21)) else (some (0, g21)))))))) else (if (dlcmp (g5 0 25).toInt64 60).toInt = 0 then (oV (f_X7_next  g5) (fun g26 => oI (f_X7_added5  g26) (fun r27 g28 => if r4.toInt < r27.toInt then (some (1, g28)) else (some (0, g28))))) else (oV (f_X7_next  g5) (fun g31 => oI (f_X7_added5  g31) (fun r32 g33 => if r4.toInt = r32.toInt then (some (1, g33)) else (some (0, g33))))))))) else (oI (f_X7_opens  h) (fun r36 g37 => some (0, g37))))
theorem m_X7_not5 {d : Nat} (hd : 8 ≤ d)  (h : dH) : dX shM d 145 [.ref 0] dI (f_X7_not5  h) h := by
  obtain ⟨e, rfl⟩ : ∃ e, d = e + 1 := ⟨d - 1, by omega⟩
  have hd : 7 ≤ e := by omega
  refine dX_of (mj := mj145) (lo := [some (.ref 0), none, none, none]) rfl (Nat.le_of_ble_eq_true rfl) rfl ?_
  unfold f_X7_not5
  refine y_aload_n (q := 1) rfl rfl rfl ?_
  refine y_bipush (x := 110) (q := 3) rfl (by decide) rfl ?_
  refine y_bipush (x := 111) (q := 5) rfl (by decide) rfl ?_
  refine y_bipush (x := 116) (q := 7) rfl (by decide) rfl ?_
  refine y_iconst (x := 0) (q := 8) rfl (by decide) rfl ?_
  refine y_iconst (x := 0) (q := 9) rfl (by decide) rfl ?_
  refine y_iconst (x := 0) (q := 10) rfl (by decide) rfl ?_
  refine y_iconst (x := 0) (q := 11) rfl (by decide) rfl ?_
  refine y_iconst (x := 0) (q := 12) rfl (by decide) rfl ?_
  refine y_callP (I := .invokevirtual 212) (idx := 212) (KD := 1) (J := 148) (mj := mj138) (as := [.ref 0, .int 110, .int 111, .int 116, .int 0, .int 0, .int 0, .int 0, .int 0]) (r := []) (q := 15) rfl (fun _ _ _ _ _ _ => rfl) rfl (by decide) rfl rfl rfl rfl rfl (Nat.le_of_ble_eq_true rfl) (d_recv atM0 (by decide) (by decide)) rfl (m_X7_isWord (Nat.le_trans (by decide) hd) 110 111 116 0 0 0 0 0 h) (fun r1 => ?_)
  refine y_eq0 (q := 25) (q' := 18) rfl rfl rfl rfl (fun c2 => ?_) (fun c3 => ?_)
  · skip
    refine y_aload_n (q := 26) rfl rfl rfl ?_
    refine y_callI (I := .invokevirtual 253) (idx := 253) (KD := 1) (J := 154) (mj := mj144) (as := [.ref 0]) (r := []) (q := 29) rfl (fun _ _ _ _ _ _ => rfl) rfl (by decide) rfl rfl rfl rfl rfl (Nat.le_of_ble_eq_true rfl) (d_recv atM0 (by decide) (by decide)) rfl (m_X7_added5 (Nat.le_trans (by decide) hd)  h) (fun r4 g5 => ?_)
    refine y_istore_n (lo' := [some (.ref 0), some (.int r4), none, none]) (q := 30) rfl (Nat.le_of_ble_eq_true rfl) rfl rfl ?_
    refine y_aload_n (q := 31) rfl rfl rfl ?_
    refine y_bipush (x := 60) (q := 33) rfl (by decide) rfl ?_
    refine y_callP (I := .invokevirtual 234) (idx := 234) (KD := 1) (J := 149) (mj := mj139) (as := [.ref 0, .int 60]) (r := []) (q := 36) rfl (fun _ _ _ _ _ _ => rfl) rfl (by decide) rfl rfl rfl rfl rfl (Nat.le_of_ble_eq_true rfl) (d_recv atM0 (by decide) (by decide)) rfl (m_X7_isSign (Nat.le_trans (by decide) hd) 60 g5) (fun r6 => ?_)
    refine y_ne0 (q := 50) (q' := 39) rfl rfl rfl rfl (fun c7 => ?_) (fun c8 => ?_)
    · skip
      refine y_aload_n (q := 40) rfl rfl rfl ?_
      refine y_bipush (x := 61) (q := 42) rfl (by decide) rfl ?_
      refine y_callP (I := .invokevirtual 234) (idx := 234) (KD := 1) (J := 149) (mj := mj139) (as := [.ref 0, .int 61]) (r := []) (q := 45) rfl (fun _ _ _ _ _ _ => rfl) rfl (by decide) rfl rfl rfl rfl rfl (Nat.le_of_ble_eq_true rfl) (d_recv atM0 (by decide) (by decide)) rfl (m_X7_isSign (Nat.le_trans (by decide) hd) 61 g5) (fun r9 => ?_)
      refine y_ne0 (q := 50) (q' := 48) rfl rfl rfl rfl (fun c10 => ?_) (fun c11 => ?_)
      · skip
        refine y_iload_n (q := 49) rfl rfl rfl ?_
        exact y_retI rfl (by decide) rfl rfl
      · skip
        refine y_aload_n (q := 51) rfl rfl rfl ?_
        refine y_getL (q := 54) rfl rfl (by decide) atM0 rfl rfl ?_
        refine y_ldc2_w (u := 60) (q := 57) rfl rfl rfl ?_
        refine y_lcmp (q := 58) rfl rfl ?_
        refine y_ne0 (q := 65) (q' := 61) rfl rfl rfl rfl (fun c12 => ?_) (fun c13 => ?_)
        · skip
          refine y_iconst (x := 1) (q := 62) rfl (by decide) rfl ?_
          refine y_goto (q := 66) rfl rfl ?_
          refine y_istore_n (lo' := [some (.ref 0), some (.int r4), some (.int 1), none]) (q := 67) rfl (Nat.le_of_ble_eq_true rfl) rfl rfl ?_
          refine y_aload_n (q := 68) rfl rfl rfl ?_
          refine y_callV (I := .invokevirtual 209) (idx := 209) (KD := 1) (J := 145) (mj := mj135) (as := [.ref 0]) (r := []) (q := 71) rfl (fun _ _ _ _ _ _ => rfl) rfl (by decide) rfl rfl rfl rfl rfl (Nat.le_of_ble_eq_true rfl) (d_recv atM0 (by decide) (by decide)) rfl (m_X7_next (Nat.le_trans (by decide) hd)  g5) (fun g14 => ?_)
          refine y_aload_n (q := 72) rfl rfl rfl ?_
          refine y_callI (I := .invokevirtual 253) (idx := 253) (KD := 1) (J := 154) (mj := mj144) (as := [.ref 0]) (r := []) (q := 75) rfl (fun _ _ _ _ _ _ => rfl) rfl (by decide) rfl rfl rfl rfl rfl (Nat.le_of_ble_eq_true rfl) (d_recv atM0 (by decide) (by decide)) rfl (m_X7_added5 (Nat.le_trans (by decide) hd)  g14) (fun r15 g16 => ?_)
          refine y_istore_n (lo' := [some (.ref 0), some (.int r4), some (.int 1), some (.int r15)]) (q := 76) rfl (Nat.le_of_ble_eq_true rfl) rfl rfl ?_
          refine y_iload_n (q := 77) rfl rfl rfl ?_
          refine y_ifF (q := 80) rfl (by decide) rfl rfl ?_
          refine y_iload_n (q := 81) rfl rfl rfl ?_
          refine y_iload_n (q := 82) rfl rfl rfl ?_
          refine y_ge (q := 97) (q' := 85) rfl rfl rfl rfl rfl (fun c17 => ?_) (fun c18 => ?_)
          · skip
            refine y_goto (q := 93) rfl rfl ?_
            refine y_iconst (x := 1) (q := 94) rfl (by decide) rfl ?_
            refine y_goto (q := 98) rfl rfl ?_
            exact y_retI rfl (by decide) rfl rfl
          · skip
            refine y_iconst (x := 0) (q := 98) rfl (by decide) rfl ?_
            exact y_retI rfl (by decide) rfl rfl
        · skip
          refine y_iconst (x := 0) (q := 66) rfl (by decide) rfl ?_
          refine y_istore_n (lo' := [some (.ref 0), some (.int r4), some (.int 0), none]) (q := 67) rfl (Nat.le_of_ble_eq_true rfl) rfl rfl ?_
          refine y_aload_n (q := 68) rfl rfl rfl ?_
          refine y_callV (I := .invokevirtual 209) (idx := 209) (KD := 1) (J := 145) (mj := mj135) (as := [.ref 0]) (r := []) (q := 71) rfl (fun _ _ _ _ _ _ => rfl) rfl (by decide) rfl rfl rfl rfl rfl (Nat.le_of_ble_eq_true rfl) (d_recv atM0 (by decide) (by decide)) rfl (m_X7_next (Nat.le_trans (by decide) hd)  g5) (fun g19 => ?_)
          refine y_aload_n (q := 72) rfl rfl rfl ?_
          refine y_callI (I := .invokevirtual 253) (idx := 253) (KD := 1) (J := 154) (mj := mj144) (as := [.ref 0]) (r := []) (q := 75) rfl (fun _ _ _ _ _ _ => rfl) rfl (by decide) rfl rfl rfl rfl rfl (Nat.le_of_ble_eq_true rfl) (d_recv atM0 (by decide) (by decide)) rfl (m_X7_added5 (Nat.le_trans (by decide) hd)  g19) (fun r20 g21 => ?_)
          refine y_istore_n (lo' := [some (.ref 0), some (.int r4), some (.int 0), some (.int r20)]) (q := 76) rfl (Nat.le_of_ble_eq_true rfl) rfl rfl ?_
          refine y_iload_n (q := 77) rfl rfl rfl ?_
          refine y_ifT (q := 88) rfl (by decide) rfl ?_
          refine y_iload_n (q := 89) rfl rfl rfl ?_
          refine y_iload_n (q := 90) rfl rfl rfl ?_
          refine y_ne (q := 97) (q' := 93) rfl rfl rfl rfl rfl (fun c22 => ?_) (fun c23 => ?_)
          · skip
            refine y_iconst (x := 1) (q := 94) rfl (by decide) rfl ?_
            refine y_goto (q := 98) rfl rfl ?_
            exact y_retI rfl (by decide) rfl rfl
          · skip
            refine y_iconst (x := 0) (q := 98) rfl (by decide) rfl ?_
            exact y_retI rfl (by decide) rfl rfl
    · skip
      refine y_aload_n (q := 51) rfl rfl rfl ?_
      refine y_getL (q := 54) rfl rfl (by decide) atM0 rfl rfl ?_
      refine y_ldc2_w (u := 60) (q := 57) rfl rfl rfl ?_
      refine y_lcmp (q := 58) rfl rfl ?_
      refine y_ne0 (q := 65) (q' := 61) rfl rfl rfl rfl (fun c24 => ?_) (fun c25 => ?_)
      · skip
        refine y_iconst (x := 1) (q := 62) rfl (by decide) rfl ?_
        refine y_goto (q := 66) rfl rfl ?_
        refine y_istore_n (lo' := [some (.ref 0), some (.int r4), some (.int 1), none]) (q := 67) rfl (Nat.le_of_ble_eq_true rfl) rfl rfl ?_
        refine y_aload_n (q := 68) rfl rfl rfl ?_
        refine y_callV (I := .invokevirtual 209) (idx := 209) (KD := 1) (J := 145) (mj := mj135) (as := [.ref 0]) (r := []) (q := 71) rfl (fun _ _ _ _ _ _ => rfl) rfl (by decide) rfl rfl rfl rfl rfl (Nat.le_of_ble_eq_true rfl) (d_recv atM0 (by decide) (by decide)) rfl (m_X7_next (Nat.le_trans (by decide) hd)  g5) (fun g26 => ?_)
        refine y_aload_n (q := 72) rfl rfl rfl ?_
        refine y_callI (I := .invokevirtual 253) (idx := 253) (KD := 1) (J := 154) (mj := mj144) (as := [.ref 0]) (r := []) (q := 75) rfl (fun _ _ _ _ _ _ => rfl) rfl (by decide) rfl rfl rfl rfl rfl (Nat.le_of_ble_eq_true rfl) (d_recv atM0 (by decide) (by decide)) rfl (m_X7_added5 (Nat.le_trans (by decide) hd)  g26) (fun r27 g28 => ?_)
        refine y_istore_n (lo' := [some (.ref 0), some (.int r4), some (.int 1), some (.int r27)]) (q := 76) rfl (Nat.le_of_ble_eq_true rfl) rfl rfl ?_
        refine y_iload_n (q := 77) rfl rfl rfl ?_
        refine y_ifF (q := 80) rfl (by decide) rfl rfl ?_
        refine y_iload_n (q := 81) rfl rfl rfl ?_
        refine y_iload_n (q := 82) rfl rfl rfl ?_
        refine y_ge (q := 97) (q' := 85) rfl rfl rfl rfl rfl (fun c29 => ?_) (fun c30 => ?_)
        · skip
          refine y_goto (q := 93) rfl rfl ?_
          refine y_iconst (x := 1) (q := 94) rfl (by decide) rfl ?_
          refine y_goto (q := 98) rfl rfl ?_
          exact y_retI rfl (by decide) rfl rfl
        · skip
          refine y_iconst (x := 0) (q := 98) rfl (by decide) rfl ?_
          exact y_retI rfl (by decide) rfl rfl
      · skip
        refine y_iconst (x := 0) (q := 66) rfl (by decide) rfl ?_
        refine y_istore_n (lo' := [some (.ref 0), some (.int r4), some (.int 0), none]) (q := 67) rfl (Nat.le_of_ble_eq_true rfl) rfl rfl ?_
        refine y_aload_n (q := 68) rfl rfl rfl ?_
        refine y_callV (I := .invokevirtual 209) (idx := 209) (KD := 1) (J := 145) (mj := mj135) (as := [.ref 0]) (r := []) (q := 71) rfl (fun _ _ _ _ _ _ => rfl) rfl (by decide) rfl rfl rfl rfl rfl (Nat.le_of_ble_eq_true rfl) (d_recv atM0 (by decide) (by decide)) rfl (m_X7_next (Nat.le_trans (by decide) hd)  g5) (fun g31 => ?_)
        refine y_aload_n (q := 72) rfl rfl rfl ?_
        refine y_callI (I := .invokevirtual 253) (idx := 253) (KD := 1) (J := 154) (mj := mj144) (as := [.ref 0]) (r := []) (q := 75) rfl (fun _ _ _ _ _ _ => rfl) rfl (by decide) rfl rfl rfl rfl rfl (Nat.le_of_ble_eq_true rfl) (d_recv atM0 (by decide) (by decide)) rfl (m_X7_added5 (Nat.le_trans (by decide) hd)  g31) (fun r32 g33 => ?_)
        refine y_istore_n (lo' := [some (.ref 0), some (.int r4), some (.int 0), some (.int r32)]) (q := 76) rfl (Nat.le_of_ble_eq_true rfl) rfl rfl ?_
        refine y_iload_n (q := 77) rfl rfl rfl ?_
        refine y_ifT (q := 88) rfl (by decide) rfl ?_
        refine y_iload_n (q := 89) rfl rfl rfl ?_
        refine y_iload_n (q := 90) rfl rfl rfl ?_
        refine y_ne (q := 97) (q' := 93) rfl rfl rfl rfl rfl (fun c34 => ?_) (fun c35 => ?_)
        · skip
          refine y_iconst (x := 1) (q := 94) rfl (by decide) rfl ?_
          refine y_goto (q := 98) rfl rfl ?_
          exact y_retI rfl (by decide) rfl rfl
        · skip
          refine y_iconst (x := 0) (q := 98) rfl (by decide) rfl ?_
          exact y_retI rfl (by decide) rfl rfl
  · skip
    refine y_aload_n (q := 19) rfl rfl rfl ?_
    refine y_callI (I := .invokevirtual 237) (idx := 237) (KD := 1) (J := 150) (mj := mj140) (as := [.ref 0]) (r := []) (q := 22) rfl (fun _ _ _ _ _ _ => rfl) rfl (by decide) rfl rfl rfl rfl rfl (Nat.le_of_ble_eq_true rfl) (d_recv atM0 (by decide) (by decide)) rfl (m_X7_opens (Nat.le_trans (by decide) hd)  h) (fun r36 g37 => ?_)
    refine y_pop (q := 23) rfl rfl ?_
    refine y_iconst (x := 0) (q := 24) rfl (by decide) rfl ?_
    exact y_retI rfl (by decide) rfl rfl
def l_X7_both5_5  (k : Int32 → dH → Option (Int32 × dH)) : Nat → Int32 → dH → Option (Int32 × dH)
  | 0, _, _ => none
  | n + 1, v1, h => oP (f_X7_isWord 97 110 100 0 0 0 0 0 h) (fun r3 => if r3.toInt = 0 then (k v1 h) else (oV (f_X7_next  h) (fun g6 => oI (f_X7_not5  g6) (fun r7 g8 => if v1.toInt = 0 then (l_X7_both5_5  k n 0 g8) else (if r7.toInt = 0 then (l_X7_both5_5  k n 0 g8) else (l_X7_both5_5  k n 1 g8))))))
theorem lz_X7_both5_5 {d : Nat} (hd : 8 ≤ d)  (k : Int32 → dH → Option (Int32 × dH)) (hk : ∀ (v1 : Int32) (z2 : Option Value) (h : dH), dY shM d mj146 dI (k v1 h) 49 [some (.ref 0), some (.int v1), z2] [] h) : ∀ (n : Nat) (v1 : Int32) (h : dH) (z2 : Option Value), dY shM d mj146 dI (l_X7_both5_5  k n v1 h) 5 [some (.ref 0), some (.int v1), z2] [] h
  | 0, _, _, _ => dY_none
  | n + 1, v1, h, z2 => by
    rw [l_X7_both5_5]
    refine y_aload_n (q := 6) rfl rfl rfl ?_
    refine y_bipush (x := 97) (q := 8) rfl (by decide) rfl ?_
    refine y_bipush (x := 110) (q := 10) rfl (by decide) rfl ?_
    refine y_bipush (x := 100) (q := 12) rfl (by decide) rfl ?_
    refine y_iconst (x := 0) (q := 13) rfl (by decide) rfl ?_
    refine y_iconst (x := 0) (q := 14) rfl (by decide) rfl ?_
    refine y_iconst (x := 0) (q := 15) rfl (by decide) rfl ?_
    refine y_iconst (x := 0) (q := 16) rfl (by decide) rfl ?_
    refine y_iconst (x := 0) (q := 17) rfl (by decide) rfl ?_
    refine y_callP (I := .invokevirtual 212) (idx := 212) (KD := 1) (J := 148) (mj := mj138) (as := [.ref 0, .int 97, .int 110, .int 100, .int 0, .int 0, .int 0, .int 0, .int 0]) (r := []) (q := 20) rfl (fun _ _ _ _ _ _ => rfl) rfl (by decide) rfl rfl rfl rfl rfl (Nat.le_of_ble_eq_true rfl) (d_recv atM0 (by decide) (by decide)) rfl (m_X7_isWord (Nat.le_trans (by decide) hd) 97 110 100 0 0 0 0 0 h) (fun r3 => ?_)
    refine y_eq0 (q := 49) (q' := 23) rfl rfl rfl rfl (fun c4 => ?_) (fun c5 => ?_)
    · skip
      exact hk v1 (z2) h
    · skip
      refine y_aload_n (q := 24) rfl rfl rfl ?_
      refine y_callV (I := .invokevirtual 209) (idx := 209) (KD := 1) (J := 145) (mj := mj135) (as := [.ref 0]) (r := []) (q := 27) rfl (fun _ _ _ _ _ _ => rfl) rfl (by decide) rfl rfl rfl rfl rfl (Nat.le_of_ble_eq_true rfl) (d_recv atM0 (by decide) (by decide)) rfl (m_X7_next (Nat.le_trans (by decide) hd)  h) (fun g6 => ?_)
      refine y_aload_n (q := 28) rfl rfl rfl ?_
      refine y_callI (I := .invokevirtual 258) (idx := 258) (KD := 1) (J := 155) (mj := mj145) (as := [.ref 0]) (r := []) (q := 31) rfl (fun _ _ _ _ _ _ => rfl) rfl (by decide) rfl rfl rfl rfl rfl (Nat.le_of_ble_eq_true rfl) (d_recv atM0 (by decide) (by decide)) rfl (m_X7_not5 (Nat.le_trans (by decide) hd)  g6) (fun r7 g8 => ?_)
      refine y_istore_n (lo' := [some (.ref 0), some (.int v1), some (.int r7)]) (q := 32) rfl (Nat.le_of_ble_eq_true rfl) rfl rfl ?_
      refine y_iload_n (q := 33) rfl rfl rfl ?_
      refine y_eq0 (q := 44) (q' := 36) rfl rfl rfl rfl (fun c9 => ?_) (fun c10 => ?_)
      · skip
        refine y_iconst (x := 0) (q := 45) rfl (by decide) rfl ?_
        refine y_istore_n (lo' := [some (.ref 0), some (.int 0), some (.int r7)]) (q := 46) rfl (Nat.le_of_ble_eq_true rfl) rfl rfl ?_
        refine y_goto (q := 5) rfl rfl ?_
        exact lz_X7_both5_5 hd  k hk n 0 g8 (some (.int r7))
      · skip
        refine y_iload_n (q := 37) rfl rfl rfl ?_
        refine y_eq0 (q := 44) (q' := 40) rfl rfl rfl rfl (fun c11 => ?_) (fun c12 => ?_)
        · skip
          refine y_iconst (x := 0) (q := 45) rfl (by decide) rfl ?_
          refine y_istore_n (lo' := [some (.ref 0), some (.int 0), some (.int r7)]) (q := 46) rfl (Nat.le_of_ble_eq_true rfl) rfl rfl ?_
          refine y_goto (q := 5) rfl rfl ?_
          exact lz_X7_both5_5 hd  k hk n 0 g8 (some (.int r7))
        · skip
          refine y_iconst (x := 1) (q := 41) rfl (by decide) rfl ?_
          refine y_goto (q := 45) rfl rfl ?_
          refine y_istore_n (lo' := [some (.ref 0), some (.int 1), some (.int r7)]) (q := 46) rfl (Nat.le_of_ble_eq_true rfl) rfl rfl ?_
          refine y_goto (q := 5) rfl rfl ?_
          exact lz_X7_both5_5 hd  k hk n 1 g8 (some (.int r7))
def f_X7_both5  (h : dH) : Option (Int32 × dH) := oI (f_X7_not5  h) (fun r1 g2 => l_X7_both5_5   (fun v1_13 g15 => some (v1_13, g15)) fuel0 r1 g2)
theorem m_X7_both5 {d : Nat} (hd : 9 ≤ d)  (h : dH) : dX shM d 146 [.ref 0] dI (f_X7_both5  h) h := by
  obtain ⟨e, rfl⟩ : ∃ e, d = e + 1 := ⟨d - 1, by omega⟩
  have hd : 8 ≤ e := by omega
  refine dX_of (mj := mj146) (lo := [some (.ref 0), none, none]) rfl (Nat.le_of_ble_eq_true rfl) rfl ?_
  unfold f_X7_both5
  refine y_aload_n (q := 1) rfl rfl rfl ?_
  refine y_callI (I := .invokevirtual 258) (idx := 258) (KD := 1) (J := 155) (mj := mj145) (as := [.ref 0]) (r := []) (q := 4) rfl (fun _ _ _ _ _ _ => rfl) rfl (by decide) rfl rfl rfl rfl rfl (Nat.le_of_ble_eq_true rfl) (d_recv atM0 (by decide) (by decide)) rfl (m_X7_not5 (Nat.le_trans (by decide) hd)  h) (fun r1 g2 => ?_)
  refine y_istore_n (lo' := [some (.ref 0), some (.int r1), none]) (q := 5) rfl (Nat.le_of_ble_eq_true rfl) rfl rfl ?_
  refine lz_X7_both5_5 hd   _ (fun v1_13 z14 g15 => ?_) fuel0 r1 g2 (none)
  refine y_iload_n (q := 50) rfl rfl rfl ?_
  exact y_retI rfl (by decide) rfl rfl
def l_X7_either5_5  (k : Int32 → dH → Option (Int32 × dH)) : Nat → Int32 → dH → Option (Int32 × dH)
  | 0, _, _ => none
  | n + 1, v1, h => oP (f_X7_isWord 111 114 0 0 0 0 0 0 h) (fun r3 => if r3.toInt = 0 then (k v1 h) else (oV (f_X7_next  h) (fun g6 => oI (f_X7_both5  g6) (fun r7 g8 => if v1.toInt = 0 then (if r7.toInt = 0 then (l_X7_either5_5  k n 0 g8) else (l_X7_either5_5  k n 1 g8)) else (l_X7_either5_5  k n 1 g8)))))
theorem lz_X7_either5_5 {d : Nat} (hd : 9 ≤ d)  (k : Int32 → dH → Option (Int32 × dH)) (hk : ∀ (v1 : Int32) (z2 : Option Value) (h : dH), dY shM d mj147 dI (k v1 h) 48 [some (.ref 0), some (.int v1), z2] [] h) : ∀ (n : Nat) (v1 : Int32) (h : dH) (z2 : Option Value), dY shM d mj147 dI (l_X7_either5_5  k n v1 h) 5 [some (.ref 0), some (.int v1), z2] [] h
  | 0, _, _, _ => dY_none
  | n + 1, v1, h, z2 => by
    rw [l_X7_either5_5]
    refine y_aload_n (q := 6) rfl rfl rfl ?_
    refine y_bipush (x := 111) (q := 8) rfl (by decide) rfl ?_
    refine y_bipush (x := 114) (q := 10) rfl (by decide) rfl ?_
    refine y_iconst (x := 0) (q := 11) rfl (by decide) rfl ?_
    refine y_iconst (x := 0) (q := 12) rfl (by decide) rfl ?_
    refine y_iconst (x := 0) (q := 13) rfl (by decide) rfl ?_
    refine y_iconst (x := 0) (q := 14) rfl (by decide) rfl ?_
    refine y_iconst (x := 0) (q := 15) rfl (by decide) rfl ?_
    refine y_iconst (x := 0) (q := 16) rfl (by decide) rfl ?_
    refine y_callP (I := .invokevirtual 212) (idx := 212) (KD := 1) (J := 148) (mj := mj138) (as := [.ref 0, .int 111, .int 114, .int 0, .int 0, .int 0, .int 0, .int 0, .int 0]) (r := []) (q := 19) rfl (fun _ _ _ _ _ _ => rfl) rfl (by decide) rfl rfl rfl rfl rfl (Nat.le_of_ble_eq_true rfl) (d_recv atM0 (by decide) (by decide)) rfl (m_X7_isWord (Nat.le_trans (by decide) hd) 111 114 0 0 0 0 0 0 h) (fun r3 => ?_)
    refine y_eq0 (q := 48) (q' := 22) rfl rfl rfl rfl (fun c4 => ?_) (fun c5 => ?_)
    · skip
      exact hk v1 (z2) h
    · skip
      refine y_aload_n (q := 23) rfl rfl rfl ?_
      refine y_callV (I := .invokevirtual 209) (idx := 209) (KD := 1) (J := 145) (mj := mj135) (as := [.ref 0]) (r := []) (q := 26) rfl (fun _ _ _ _ _ _ => rfl) rfl (by decide) rfl rfl rfl rfl rfl (Nat.le_of_ble_eq_true rfl) (d_recv atM0 (by decide) (by decide)) rfl (m_X7_next (Nat.le_trans (by decide) hd)  h) (fun g6 => ?_)
      refine y_aload_n (q := 27) rfl rfl rfl ?_
      refine y_callI (I := .invokevirtual 261) (idx := 261) (KD := 1) (J := 156) (mj := mj146) (as := [.ref 0]) (r := []) (q := 30) rfl (fun _ _ _ _ _ _ => rfl) rfl (by decide) rfl rfl rfl rfl rfl (Nat.le_of_ble_eq_true rfl) (d_recv atM0 (by decide) (by decide)) rfl (m_X7_both5 (Nat.le_trans (by decide) hd)  g6) (fun r7 g8 => ?_)
      refine y_istore_n (lo' := [some (.ref 0), some (.int v1), some (.int r7)]) (q := 31) rfl (Nat.le_of_ble_eq_true rfl) rfl rfl ?_
      refine y_iload_n (q := 32) rfl rfl rfl ?_
      refine y_ne0 (q := 39) (q' := 35) rfl rfl rfl rfl (fun c9 => ?_) (fun c10 => ?_)
      · skip
        refine y_iload_n (q := 36) rfl rfl rfl ?_
        refine y_eq0 (q := 43) (q' := 39) rfl rfl rfl rfl (fun c11 => ?_) (fun c12 => ?_)
        · skip
          refine y_iconst (x := 0) (q := 44) rfl (by decide) rfl ?_
          refine y_istore_n (lo' := [some (.ref 0), some (.int 0), some (.int r7)]) (q := 45) rfl (Nat.le_of_ble_eq_true rfl) rfl rfl ?_
          refine y_goto (q := 5) rfl rfl ?_
          exact lz_X7_either5_5 hd  k hk n 0 g8 (some (.int r7))
        · skip
          refine y_iconst (x := 1) (q := 40) rfl (by decide) rfl ?_
          refine y_goto (q := 44) rfl rfl ?_
          refine y_istore_n (lo' := [some (.ref 0), some (.int 1), some (.int r7)]) (q := 45) rfl (Nat.le_of_ble_eq_true rfl) rfl rfl ?_
          refine y_goto (q := 5) rfl rfl ?_
          exact lz_X7_either5_5 hd  k hk n 1 g8 (some (.int r7))
      · skip
        refine y_iconst (x := 1) (q := 40) rfl (by decide) rfl ?_
        refine y_goto (q := 44) rfl rfl ?_
        refine y_istore_n (lo' := [some (.ref 0), some (.int 1), some (.int r7)]) (q := 45) rfl (Nat.le_of_ble_eq_true rfl) rfl rfl ?_
        refine y_goto (q := 5) rfl rfl ?_
        exact lz_X7_either5_5 hd  k hk n 1 g8 (some (.int r7))
def f_X7_either5  (h : dH) : Option (Int32 × dH) := oI (f_X7_both5  h) (fun r1 g2 => l_X7_either5_5   (fun v1_13 g15 => some (v1_13, g15)) fuel0 r1 g2)
theorem m_X7_either5 {d : Nat} (hd : 10 ≤ d)  (h : dH) : dX shM d 147 [.ref 0] dI (f_X7_either5  h) h := by
  obtain ⟨e, rfl⟩ : ∃ e, d = e + 1 := ⟨d - 1, by omega⟩
  have hd : 9 ≤ e := by omega
  refine dX_of (mj := mj147) (lo := [some (.ref 0), none, none]) rfl (Nat.le_of_ble_eq_true rfl) rfl ?_
  unfold f_X7_either5
  refine y_aload_n (q := 1) rfl rfl rfl ?_
  refine y_callI (I := .invokevirtual 261) (idx := 261) (KD := 1) (J := 156) (mj := mj146) (as := [.ref 0]) (r := []) (q := 4) rfl (fun _ _ _ _ _ _ => rfl) rfl (by decide) rfl rfl rfl rfl rfl (Nat.le_of_ble_eq_true rfl) (d_recv atM0 (by decide) (by decide)) rfl (m_X7_both5 (Nat.le_trans (by decide) hd)  h) (fun r1 g2 => ?_)
  refine y_istore_n (lo' := [some (.ref 0), some (.int r1), none]) (q := 5) rfl (Nat.le_of_ble_eq_true rfl) rfl rfl ?_
  refine lz_X7_either5_5 hd   _ (fun v1_13 z14 g15 => ?_) fuel0 r1 g2 (none)
  refine y_iload_n (q := 49) rfl rfl rfl ?_
  exact y_retI rfl (by decide) rfl rfl
def f_X7_atom4  (h : dH) : Option (Int32 × dH) := oP (f_X7_isSign 45 h) (fun r1 => if r1.toInt = 0 then (oP (f_X7_isSign 40 h) (fun r4 => if r4.toInt = 0 then (if (h 0 27).toInt = 0 then (if (h 0 23).toInt = 2 then (oV (f_X7_next  h) (fun g11 => some ((h 0 25).toInt64.toInt32, g11))) else (if (h 0 27).toInt = 0 then (if (h 0 23).toInt = 1 then (oI (f_X7_name  h) (fun r16 g17 => if (g17 0 27).toInt = 0 then (oV (f_X7_next  g17) (fun g20 => some (r16, g20))) else (some (r16, g17)))) else (oV (f_X7_fail  h) (fun g21 => some (0, g21)))) else (oV (f_X7_fail  h) (fun g22 => some (0, g22))))) else (if (h 0 27).toInt = 0 then (if (h 0 23).toInt = 1 then (oI (f_X7_name  h) (fun r27 g28 => if (g28 0 27).toInt = 0 then (oV (f_X7_next  g28) (fun g31 => some (r27, g31))) else (some (r27, g28)))) else (oV (f_X7_fail  h) (fun g32 => some (0, g32)))) else (oV (f_X7_fail  h) (fun g33 => some (0, g33))))) else (oI (f_X7_opens  h) (fun r34 g35 => if r34.toInt = 0 then (some (0, g35)) else (oI (f_X7_either5  g35) (fun r38 g39 => oP (f_X7_isSign 41 g39) (fun r40 => if r40.toInt = 0 then (oV (f_X7_fail  g39) (fun g43 => oH (dU g43 0 26 ((g43 0 26) - 1)) (fun g44 => if (g44 0 27).toInt = 0 then (oV (f_X7_next  g44) (fun g47 => some (r38, g47))) else (some (r38, g44))))) else (oH (dU g39 0 26 ((g39 0 26) - 1)) (fun g48 => if (g48 0 27).toInt = 0 then (oV (f_X7_next  g48) (fun g51 => some (r38, g51))) else (some (r38, g48))))))))))) else (oI (f_X7_opens  h) (fun r52 g53 => if r52.toInt = 0 then (some (0, g53)) else (oI (f_X7_atom5  g53) (fun r56 g57 => oH (dU g57 0 26 ((g57 0 26) - 1)) (fun g58 => some ((-r56), g58)))))))
theorem m_X7_atom4 {d : Nat} (hd : 11 ≤ d)  (h : dH) : dX shM d 148 [.ref 0] dI (f_X7_atom4  h) h := by
  obtain ⟨e, rfl⟩ : ∃ e, d = e + 1 := ⟨d - 1, by omega⟩
  have hd : 10 ≤ e := by omega
  refine dX_of (mj := mj148) (lo := [some (.ref 0), none]) rfl (Nat.le_of_ble_eq_true rfl) rfl ?_
  unfold f_X7_atom4
  refine y_iconst (x := 0) (q := 1) rfl (by decide) rfl ?_
  refine y_istore_n (lo' := [some (.ref 0), some (.int 0)]) (q := 2) rfl (Nat.le_of_ble_eq_true rfl) rfl rfl ?_
  refine y_aload_n (q := 3) rfl rfl rfl ?_
  refine y_bipush (x := 45) (q := 5) rfl (by decide) rfl ?_
  refine y_callP (I := .invokevirtual 234) (idx := 234) (KD := 1) (J := 149) (mj := mj139) (as := [.ref 0, .int 45]) (r := []) (q := 8) rfl (fun _ _ _ _ _ _ => rfl) rfl (by decide) rfl rfl rfl rfl rfl (Nat.le_of_ble_eq_true rfl) (d_recv atM0 (by decide) (by decide)) rfl (m_X7_isSign (Nat.le_trans (by decide) hd) 45 h) (fun r1 => ?_)
  refine y_eq0 (q := 37) (q' := 11) rfl rfl rfl rfl (fun c2 => ?_) (fun c3 => ?_)
  · skip
    refine y_aload_n (q := 38) rfl rfl rfl ?_
    refine y_bipush (x := 40) (q := 40) rfl (by decide) rfl ?_
    refine y_callP (I := .invokevirtual 234) (idx := 234) (KD := 1) (J := 149) (mj := mj139) (as := [.ref 0, .int 40]) (r := []) (q := 43) rfl (fun _ _ _ _ _ _ => rfl) rfl (by decide) rfl rfl rfl rfl rfl (Nat.le_of_ble_eq_true rfl) (d_recv atM0 (by decide) (by decide)) rfl (m_X7_isSign (Nat.le_trans (by decide) hd) 40 h) (fun r4 => ?_)
    refine y_eq0 (q := 95) (q' := 46) rfl rfl rfl rfl (fun c5 => ?_) (fun c6 => ?_)
    · skip
      refine y_aload_n (q := 96) rfl rfl rfl ?_
      refine y_getI (q := 99) rfl rfl (by decide) atM0 rfl rfl ?_
      refine y_ne0 (q := 123) (q' := 102) rfl rfl rfl rfl (fun c7 => ?_) (fun c8 => ?_)
      · skip
        refine y_aload_n (q := 103) rfl rfl rfl ?_
        refine y_getI (q := 106) rfl rfl (by decide) atM0 rfl rfl ?_
        refine y_iconst (x := 2) (q := 107) rfl (by decide) rfl ?_
        refine y_ne (q := 123) (q' := 110) rfl rfl (by decide) rfl rfl (fun c9 => ?_) (fun c10 => ?_)
        · skip
          refine y_aload_n (q := 111) rfl rfl rfl ?_
          refine y_getL (q := 114) rfl rfl (by decide) atM0 rfl rfl ?_
          refine y_l2i (q := 115) rfl rfl ?_
          refine y_istore_n (lo' := [some (.ref 0), some (.int (h 0 25).toInt64.toInt32)]) (q := 116) rfl (Nat.le_of_ble_eq_true rfl) rfl rfl ?_
          refine y_aload_n (q := 117) rfl rfl rfl ?_
          refine y_callV (I := .invokevirtual 209) (idx := 209) (KD := 1) (J := 145) (mj := mj135) (as := [.ref 0]) (r := []) (q := 120) rfl (fun _ _ _ _ _ _ => rfl) rfl (by decide) rfl rfl rfl rfl rfl (Nat.le_of_ble_eq_true rfl) (d_recv atM0 (by decide) (by decide)) rfl (m_X7_next (Nat.le_trans (by decide) hd)  h) (fun g11 => ?_)
          refine y_goto (q := 161) rfl rfl ?_
          refine y_iload_n (q := 162) rfl rfl rfl ?_
          exact y_retI rfl (by decide) rfl rfl
        · skip
          refine y_aload_n (q := 124) rfl rfl rfl ?_
          refine y_getI (q := 127) rfl rfl (by decide) atM0 rfl rfl ?_
          refine y_ne0 (q := 157) (q' := 130) rfl rfl rfl rfl (fun c12 => ?_) (fun c13 => ?_)
          · skip
            refine y_aload_n (q := 131) rfl rfl rfl ?_
            refine y_getI (q := 134) rfl rfl (by decide) atM0 rfl rfl ?_
            refine y_iconst (x := 1) (q := 135) rfl (by decide) rfl ?_
            refine y_ne (q := 157) (q' := 138) rfl rfl (by decide) rfl rfl (fun c14 => ?_) (fun c15 => ?_)
            · skip
              refine y_aload_n (q := 139) rfl rfl rfl ?_
              refine y_callI (I := .invokevirtual 241) (idx := 241) (KD := 1) (J := 151) (mj := mj141) (as := [.ref 0]) (r := []) (q := 142) rfl (fun _ _ _ _ _ _ => rfl) rfl (by decide) rfl rfl rfl rfl rfl (Nat.le_of_ble_eq_true rfl) (d_recv atM0 (by decide) (by decide)) rfl (m_X7_name (Nat.le_trans (by decide) hd)  h) (fun r16 g17 => ?_)
              refine y_istore_n (lo' := [some (.ref 0), some (.int r16)]) (q := 143) rfl (Nat.le_of_ble_eq_true rfl) rfl rfl ?_
              refine y_aload_n (q := 144) rfl rfl rfl ?_
              refine y_getI (q := 147) rfl rfl (by decide) atM0 rfl rfl ?_
              refine y_ne0 (q := 161) (q' := 150) rfl rfl rfl rfl (fun c18 => ?_) (fun c19 => ?_)
              · skip
                refine y_aload_n (q := 151) rfl rfl rfl ?_
                refine y_callV (I := .invokevirtual 209) (idx := 209) (KD := 1) (J := 145) (mj := mj135) (as := [.ref 0]) (r := []) (q := 154) rfl (fun _ _ _ _ _ _ => rfl) rfl (by decide) rfl rfl rfl rfl rfl (Nat.le_of_ble_eq_true rfl) (d_recv atM0 (by decide) (by decide)) rfl (m_X7_next (Nat.le_trans (by decide) hd)  g17) (fun g20 => ?_)
                refine y_goto (q := 161) rfl rfl ?_
                refine y_iload_n (q := 162) rfl rfl rfl ?_
                exact y_retI rfl (by decide) rfl rfl
              · skip
                refine y_iload_n (q := 162) rfl rfl rfl ?_
                exact y_retI rfl (by decide) rfl rfl
            · skip
              refine y_aload_n (q := 158) rfl rfl rfl ?_
              refine y_callV (I := .invokevirtual 206) (idx := 206) (KD := 1) (J := 146) (mj := mj136) (as := [.ref 0]) (r := []) (q := 161) rfl (fun _ _ _ _ _ _ => rfl) rfl (by decide) rfl rfl rfl rfl rfl (Nat.le_of_ble_eq_true rfl) (d_recv atM0 (by decide) (by decide)) rfl (m_X7_fail (Nat.le_trans (by decide) hd)  h) (fun g21 => ?_)
              refine y_iload_n (q := 162) rfl rfl rfl ?_
              exact y_retI rfl (by decide) rfl rfl
          · skip
            refine y_aload_n (q := 158) rfl rfl rfl ?_
            refine y_callV (I := .invokevirtual 206) (idx := 206) (KD := 1) (J := 146) (mj := mj136) (as := [.ref 0]) (r := []) (q := 161) rfl (fun _ _ _ _ _ _ => rfl) rfl (by decide) rfl rfl rfl rfl rfl (Nat.le_of_ble_eq_true rfl) (d_recv atM0 (by decide) (by decide)) rfl (m_X7_fail (Nat.le_trans (by decide) hd)  h) (fun g22 => ?_)
            refine y_iload_n (q := 162) rfl rfl rfl ?_
            exact y_retI rfl (by decide) rfl rfl
      · skip
        refine y_aload_n (q := 124) rfl rfl rfl ?_
        refine y_getI (q := 127) rfl rfl (by decide) atM0 rfl rfl ?_
        refine y_ne0 (q := 157) (q' := 130) rfl rfl rfl rfl (fun c23 => ?_) (fun c24 => ?_)
        · skip
          refine y_aload_n (q := 131) rfl rfl rfl ?_
          refine y_getI (q := 134) rfl rfl (by decide) atM0 rfl rfl ?_
          refine y_iconst (x := 1) (q := 135) rfl (by decide) rfl ?_
          refine y_ne (q := 157) (q' := 138) rfl rfl (by decide) rfl rfl (fun c25 => ?_) (fun c26 => ?_)
          · skip
            refine y_aload_n (q := 139) rfl rfl rfl ?_
            refine y_callI (I := .invokevirtual 241) (idx := 241) (KD := 1) (J := 151) (mj := mj141) (as := [.ref 0]) (r := []) (q := 142) rfl (fun _ _ _ _ _ _ => rfl) rfl (by decide) rfl rfl rfl rfl rfl (Nat.le_of_ble_eq_true rfl) (d_recv atM0 (by decide) (by decide)) rfl (m_X7_name (Nat.le_trans (by decide) hd)  h) (fun r27 g28 => ?_)
            refine y_istore_n (lo' := [some (.ref 0), some (.int r27)]) (q := 143) rfl (Nat.le_of_ble_eq_true rfl) rfl rfl ?_
            refine y_aload_n (q := 144) rfl rfl rfl ?_
            refine y_getI (q := 147) rfl rfl (by decide) atM0 rfl rfl ?_
            refine y_ne0 (q := 161) (q' := 150) rfl rfl rfl rfl (fun c29 => ?_) (fun c30 => ?_)
            · skip
              refine y_aload_n (q := 151) rfl rfl rfl ?_
              refine y_callV (I := .invokevirtual 209) (idx := 209) (KD := 1) (J := 145) (mj := mj135) (as := [.ref 0]) (r := []) (q := 154) rfl (fun _ _ _ _ _ _ => rfl) rfl (by decide) rfl rfl rfl rfl rfl (Nat.le_of_ble_eq_true rfl) (d_recv atM0 (by decide) (by decide)) rfl (m_X7_next (Nat.le_trans (by decide) hd)  g28) (fun g31 => ?_)
              refine y_goto (q := 161) rfl rfl ?_
              refine y_iload_n (q := 162) rfl rfl rfl ?_
              exact y_retI rfl (by decide) rfl rfl
            · skip
              refine y_iload_n (q := 162) rfl rfl rfl ?_
              exact y_retI rfl (by decide) rfl rfl
          · skip
            refine y_aload_n (q := 158) rfl rfl rfl ?_
            refine y_callV (I := .invokevirtual 206) (idx := 206) (KD := 1) (J := 146) (mj := mj136) (as := [.ref 0]) (r := []) (q := 161) rfl (fun _ _ _ _ _ _ => rfl) rfl (by decide) rfl rfl rfl rfl rfl (Nat.le_of_ble_eq_true rfl) (d_recv atM0 (by decide) (by decide)) rfl (m_X7_fail (Nat.le_trans (by decide) hd)  h) (fun g32 => ?_)
            refine y_iload_n (q := 162) rfl rfl rfl ?_
            exact y_retI rfl (by decide) rfl rfl
        · skip
          refine y_aload_n (q := 158) rfl rfl rfl ?_
          refine y_callV (I := .invokevirtual 206) (idx := 206) (KD := 1) (J := 146) (mj := mj136) (as := [.ref 0]) (r := []) (q := 161) rfl (fun _ _ _ _ _ _ => rfl) rfl (by decide) rfl rfl rfl rfl rfl (Nat.le_of_ble_eq_true rfl) (d_recv atM0 (by decide) (by decide)) rfl (m_X7_fail (Nat.le_trans (by decide) hd)  h) (fun g33 => ?_)
          refine y_iload_n (q := 162) rfl rfl rfl ?_
          exact y_retI rfl (by decide) rfl rfl
    · skip
      refine y_aload_n (q := 47) rfl rfl rfl ?_
      refine y_callI (I := .invokevirtual 237) (idx := 237) (KD := 1) (J := 150) (mj := mj140) (as := [.ref 0]) (r := []) (q := 50) rfl (fun _ _ _ _ _ _ => rfl) rfl (by decide) rfl rfl rfl rfl rfl (Nat.le_of_ble_eq_true rfl) (d_recv atM0 (by decide) (by decide)) rfl (m_X7_opens (Nat.le_trans (by decide) hd)  h) (fun r34 g35 => ?_)
      refine y_eq0 (q := 161) (q' := 53) rfl rfl rfl rfl (fun c36 => ?_) (fun c37 => ?_)
      · skip
        refine y_iload_n (q := 162) rfl rfl rfl ?_
        exact y_retI rfl (by decide) rfl rfl
      · skip
        refine y_aload_n (q := 54) rfl rfl rfl ?_
        refine y_callI (I := .invokevirtual 264) (idx := 264) (KD := 1) (J := 157) (mj := mj147) (as := [.ref 0]) (r := []) (q := 57) rfl (fun _ _ _ _ _ _ => rfl) rfl (by decide) rfl rfl rfl rfl rfl (Nat.le_of_ble_eq_true rfl) (d_recv atM0 (by decide) (by decide)) rfl (m_X7_either5 (Nat.le_trans (by decide) hd)  g35) (fun r38 g39 => ?_)
        refine y_istore_n (lo' := [some (.ref 0), some (.int r38)]) (q := 58) rfl (Nat.le_of_ble_eq_true rfl) rfl rfl ?_
        refine y_aload_n (q := 59) rfl rfl rfl ?_
        refine y_bipush (x := 41) (q := 61) rfl (by decide) rfl ?_
        refine y_callP (I := .invokevirtual 234) (idx := 234) (KD := 1) (J := 149) (mj := mj139) (as := [.ref 0, .int 41]) (r := []) (q := 64) rfl (fun _ _ _ _ _ _ => rfl) rfl (by decide) rfl rfl rfl rfl rfl (Nat.le_of_ble_eq_true rfl) (d_recv atM0 (by decide) (by decide)) rfl (m_X7_isSign (Nat.le_trans (by decide) hd) 41 g39) (fun r40 => ?_)
        refine y_ne0 (q := 71) (q' := 67) rfl rfl rfl rfl (fun c41 => ?_) (fun c42 => ?_)
        · skip
          refine y_aload_n (q := 68) rfl rfl rfl ?_
          refine y_callV (I := .invokevirtual 206) (idx := 206) (KD := 1) (J := 146) (mj := mj136) (as := [.ref 0]) (r := []) (q := 71) rfl (fun _ _ _ _ _ _ => rfl) rfl (by decide) rfl rfl rfl rfl rfl (Nat.le_of_ble_eq_true rfl) (d_recv atM0 (by decide) (by decide)) rfl (m_X7_fail (Nat.le_trans (by decide) hd)  g39) (fun g43 => ?_)
          refine y_aload_n (q := 72) rfl rfl rfl ?_
          refine y_dup (q := 73) rfl rfl ?_
          refine y_getI (q := 76) rfl rfl (by decide) atM0 rfl rfl ?_
          refine y_iconst (x := 1) (q := 77) rfl (by decide) rfl ?_
          refine y_isub (q := 78) rfl rfl ?_
          refine y_putI (q := 81) rfl rfl (by decide) atM0 rfl rfl rfl rfl (fun g44 => ?_)
          refine y_aload_n (q := 82) rfl rfl rfl ?_
          refine y_getI (q := 85) rfl rfl (by decide) atM0 rfl rfl ?_
          refine y_ne0 (q := 161) (q' := 88) rfl rfl rfl rfl (fun c45 => ?_) (fun c46 => ?_)
          · skip
            refine y_aload_n (q := 89) rfl rfl rfl ?_
            refine y_callV (I := .invokevirtual 209) (idx := 209) (KD := 1) (J := 145) (mj := mj135) (as := [.ref 0]) (r := []) (q := 92) rfl (fun _ _ _ _ _ _ => rfl) rfl (by decide) rfl rfl rfl rfl rfl (Nat.le_of_ble_eq_true rfl) (d_recv atM0 (by decide) (by decide)) rfl (m_X7_next (Nat.le_trans (by decide) hd)  g44) (fun g47 => ?_)
            refine y_goto (q := 161) rfl rfl ?_
            refine y_iload_n (q := 162) rfl rfl rfl ?_
            exact y_retI rfl (by decide) rfl rfl
          · skip
            refine y_iload_n (q := 162) rfl rfl rfl ?_
            exact y_retI rfl (by decide) rfl rfl
        · skip
          refine y_aload_n (q := 72) rfl rfl rfl ?_
          refine y_dup (q := 73) rfl rfl ?_
          refine y_getI (q := 76) rfl rfl (by decide) atM0 rfl rfl ?_
          refine y_iconst (x := 1) (q := 77) rfl (by decide) rfl ?_
          refine y_isub (q := 78) rfl rfl ?_
          refine y_putI (q := 81) rfl rfl (by decide) atM0 rfl rfl rfl rfl (fun g48 => ?_)
          refine y_aload_n (q := 82) rfl rfl rfl ?_
          refine y_getI (q := 85) rfl rfl (by decide) atM0 rfl rfl ?_
          refine y_ne0 (q := 161) (q' := 88) rfl rfl rfl rfl (fun c49 => ?_) (fun c50 => ?_)
          · skip
            refine y_aload_n (q := 89) rfl rfl rfl ?_
            refine y_callV (I := .invokevirtual 209) (idx := 209) (KD := 1) (J := 145) (mj := mj135) (as := [.ref 0]) (r := []) (q := 92) rfl (fun _ _ _ _ _ _ => rfl) rfl (by decide) rfl rfl rfl rfl rfl (Nat.le_of_ble_eq_true rfl) (d_recv atM0 (by decide) (by decide)) rfl (m_X7_next (Nat.le_trans (by decide) hd)  g48) (fun g51 => ?_)
            refine y_goto (q := 161) rfl rfl ?_
            refine y_iload_n (q := 162) rfl rfl rfl ?_
            exact y_retI rfl (by decide) rfl rfl
          · skip
            refine y_iload_n (q := 162) rfl rfl rfl ?_
            exact y_retI rfl (by decide) rfl rfl
  · skip
    refine y_aload_n (q := 12) rfl rfl rfl ?_
    refine y_callI (I := .invokevirtual 237) (idx := 237) (KD := 1) (J := 150) (mj := mj140) (as := [.ref 0]) (r := []) (q := 15) rfl (fun _ _ _ _ _ _ => rfl) rfl (by decide) rfl rfl rfl rfl rfl (Nat.le_of_ble_eq_true rfl) (d_recv atM0 (by decide) (by decide)) rfl (m_X7_opens (Nat.le_trans (by decide) hd)  h) (fun r52 g53 => ?_)
    refine y_eq0 (q := 161) (q' := 18) rfl rfl rfl rfl (fun c54 => ?_) (fun c55 => ?_)
    · skip
      refine y_iload_n (q := 162) rfl rfl rfl ?_
      exact y_retI rfl (by decide) rfl rfl
    · skip
      refine y_aload_n (q := 19) rfl rfl rfl ?_
      refine y_callI (I := .invokevirtual 245) (idx := 245) (KD := 1) (J := 152) (mj := mj142) (as := [.ref 0]) (r := []) (q := 22) rfl (fun _ _ _ _ _ _ => rfl) rfl (by decide) rfl rfl rfl rfl rfl (Nat.le_of_ble_eq_true rfl) (d_recv atM0 (by decide) (by decide)) rfl (m_X7_atom5 (Nat.le_trans (by decide) hd)  g53) (fun r56 g57 => ?_)
      refine y_ineg (q := 23) rfl rfl ?_
      refine y_istore_n (lo' := [some (.ref 0), some (.int (-r56))]) (q := 24) rfl (Nat.le_of_ble_eq_true rfl) rfl rfl ?_
      refine y_aload_n (q := 25) rfl rfl rfl ?_
      refine y_dup (q := 26) rfl rfl ?_
      refine y_getI (q := 29) rfl rfl (by decide) atM0 rfl rfl ?_
      refine y_iconst (x := 1) (q := 30) rfl (by decide) rfl ?_
      refine y_isub (q := 31) rfl rfl ?_
      refine y_putI (q := 34) rfl rfl (by decide) atM0 rfl rfl rfl rfl (fun g58 => ?_)
      refine y_goto (q := 161) rfl rfl ?_
      refine y_iload_n (q := 162) rfl rfl rfl ?_
      exact y_retI rfl (by decide) rfl rfl
def l_X7_term4_5  (k : Int32 → dH → Option (Int32 × dH)) : Nat → Int32 → dH → Option (Int32 × dH)
  | 0, _, _ => none
  | n + 1, v1, h => oP (f_X7_isSign 42 h) (fun r3 => if r3.toInt = 0 then (k v1 h) else (oV (f_X7_next  h) (fun g6 => oI (f_X7_atom4  g6) (fun r7 g8 => l_X7_term4_5  k n (v1 * r7) g8))))
theorem lz_X7_term4_5 {d : Nat} (hd : 11 ≤ d)  (k : Int32 → dH → Option (Int32 × dH)) (hk : ∀ (v1 : Int32) (h : dH), dY shM d mj149 dI (k v1 h) 28 [some (.ref 0), some (.int v1)] [] h) : ∀ (n : Nat) (v1 : Int32) (h : dH), dY shM d mj149 dI (l_X7_term4_5  k n v1 h) 5 [some (.ref 0), some (.int v1)] [] h
  | 0, _, _ => dY_none
  | n + 1, v1, h => by
    rw [l_X7_term4_5]
    refine y_aload_n (q := 6) rfl rfl rfl ?_
    refine y_bipush (x := 42) (q := 8) rfl (by decide) rfl ?_
    refine y_callP (I := .invokevirtual 234) (idx := 234) (KD := 1) (J := 149) (mj := mj139) (as := [.ref 0, .int 42]) (r := []) (q := 11) rfl (fun _ _ _ _ _ _ => rfl) rfl (by decide) rfl rfl rfl rfl rfl (Nat.le_of_ble_eq_true rfl) (d_recv atM0 (by decide) (by decide)) rfl (m_X7_isSign (Nat.le_trans (by decide) hd) 42 h) (fun r3 => ?_)
    refine y_eq0 (q := 28) (q' := 14) rfl rfl rfl rfl (fun c4 => ?_) (fun c5 => ?_)
    · skip
      exact hk v1  h
    · skip
      refine y_aload_n (q := 15) rfl rfl rfl ?_
      refine y_callV (I := .invokevirtual 209) (idx := 209) (KD := 1) (J := 145) (mj := mj135) (as := [.ref 0]) (r := []) (q := 18) rfl (fun _ _ _ _ _ _ => rfl) rfl (by decide) rfl rfl rfl rfl rfl (Nat.le_of_ble_eq_true rfl) (d_recv atM0 (by decide) (by decide)) rfl (m_X7_next (Nat.le_trans (by decide) hd)  h) (fun g6 => ?_)
      refine y_iload_n (q := 19) rfl rfl rfl ?_
      refine y_aload_n (q := 20) rfl rfl rfl ?_
      refine y_callI (I := .invokevirtual 267) (idx := 267) (KD := 1) (J := 158) (mj := mj148) (as := [.ref 0]) (r := [.int v1]) (q := 23) rfl (fun _ _ _ _ _ _ => rfl) rfl (by decide) rfl rfl rfl rfl rfl (Nat.le_of_ble_eq_true rfl) (d_recv atM0 (by decide) (by decide)) rfl (m_X7_atom4 (Nat.le_trans (by decide) hd)  g6) (fun r7 g8 => ?_)
      refine y_imul (q := 24) rfl rfl ?_
      refine y_istore_n (lo' := [some (.ref 0), some (.int (v1 * r7))]) (q := 25) rfl (Nat.le_of_ble_eq_true rfl) rfl rfl ?_
      refine y_goto (q := 5) rfl rfl ?_
      exact lz_X7_term4_5 hd  k hk n (v1 * r7) g8 
def f_X7_term4  (h : dH) : Option (Int32 × dH) := oI (f_X7_atom4  h) (fun r1 g2 => l_X7_term4_5   (fun v1_9 g10 => some (v1_9, g10)) fuel0 r1 g2)
theorem m_X7_term4 {d : Nat} (hd : 12 ≤ d)  (h : dH) : dX shM d 149 [.ref 0] dI (f_X7_term4  h) h := by
  obtain ⟨e, rfl⟩ : ∃ e, d = e + 1 := ⟨d - 1, by omega⟩
  have hd : 11 ≤ e := by omega
  refine dX_of (mj := mj149) (lo := [some (.ref 0), none]) rfl (Nat.le_of_ble_eq_true rfl) rfl ?_
  unfold f_X7_term4
  refine y_aload_n (q := 1) rfl rfl rfl ?_
  refine y_callI (I := .invokevirtual 267) (idx := 267) (KD := 1) (J := 158) (mj := mj148) (as := [.ref 0]) (r := []) (q := 4) rfl (fun _ _ _ _ _ _ => rfl) rfl (by decide) rfl rfl rfl rfl rfl (Nat.le_of_ble_eq_true rfl) (d_recv atM0 (by decide) (by decide)) rfl (m_X7_atom4 (Nat.le_trans (by decide) hd)  h) (fun r1 g2 => ?_)
  refine y_istore_n (lo' := [some (.ref 0), some (.int r1)]) (q := 5) rfl (Nat.le_of_ble_eq_true rfl) rfl rfl ?_
  refine lz_X7_term4_5 hd   _ (fun v1_9 g10 => ?_) fuel0 r1 g2 
  refine y_iload_n (q := 29) rfl rfl rfl ?_
  exact y_retI rfl (by decide) rfl rfl
def l_X7_added4_5  (k : Int32 → dH → Option (Int32 × dH)) : Nat → Int32 → dH → Option (Int32 × dH)
  | 0, _, _ => none
  | n + 1, v1, h => oP (f_X7_isSign 43 h) (fun r3 => if r3.toInt = 0 then (oP (f_X7_isSign 45 h) (fun r6 => if r6.toInt = 0 then (k v1 h) else (if (dlcmp (h 0 25).toInt64 43).toInt = 0 then (oV (f_X7_next  h) (fun g11 => oI (f_X7_term4  g11) (fun r12 g13 => l_X7_added4_5  k n (v1 + r12) g13))) else (oV (f_X7_next  h) (fun g14 => oI (f_X7_term4  g14) (fun r15 g16 => l_X7_added4_5  k n (v1 - r15) g16)))))) else (if (dlcmp (h 0 25).toInt64 43).toInt = 0 then (oV (f_X7_next  h) (fun g19 => oI (f_X7_term4  g19) (fun r20 g21 => l_X7_added4_5  k n (v1 + r20) g21))) else (oV (f_X7_next  h) (fun g22 => oI (f_X7_term4  g22) (fun r23 g24 => l_X7_added4_5  k n (v1 - r23) g24)))))
theorem lz_X7_added4_5 {d : Nat} (hd : 12 ≤ d)  (k : Int32 → dH → Option (Int32 × dH)) (hk : ∀ (v1 : Int32) (z2 : Option Value) (z3 : Option Value) (h : dH), dY shM d mj150 dI (k v1 h) 66 [some (.ref 0), some (.int v1), z2, z3] [] h) : ∀ (n : Nat) (v1 : Int32) (h : dH) (z2 : Option Value) (z3 : Option Value), dY shM d mj150 dI (l_X7_added4_5  k n v1 h) 5 [some (.ref 0), some (.int v1), z2, z3] [] h
  | 0, _, _, _, _ => dY_none
  | n + 1, v1, h, z2, z3 => by
    rw [l_X7_added4_5]
    refine y_aload_n (q := 6) rfl rfl rfl ?_
    refine y_bipush (x := 43) (q := 8) rfl (by decide) rfl ?_
    refine y_callP (I := .invokevirtual 234) (idx := 234) (KD := 1) (J := 149) (mj := mj139) (as := [.ref 0, .int 43]) (r := []) (q := 11) rfl (fun _ _ _ _ _ _ => rfl) rfl (by decide) rfl rfl rfl rfl rfl (Nat.le_of_ble_eq_true rfl) (d_recv atM0 (by decide) (by decide)) rfl (m_X7_isSign (Nat.le_trans (by decide) hd) 43 h) (fun r3 => ?_)
    refine y_ne0 (q := 23) (q' := 14) rfl rfl rfl rfl (fun c4 => ?_) (fun c5 => ?_)
    · skip
      refine y_aload_n (q := 15) rfl rfl rfl ?_
      refine y_bipush (x := 45) (q := 17) rfl (by decide) rfl ?_
      refine y_callP (I := .invokevirtual 234) (idx := 234) (KD := 1) (J := 149) (mj := mj139) (as := [.ref 0, .int 45]) (r := []) (q := 20) rfl (fun _ _ _ _ _ _ => rfl) rfl (by decide) rfl rfl rfl rfl rfl (Nat.le_of_ble_eq_true rfl) (d_recv atM0 (by decide) (by decide)) rfl (m_X7_isSign (Nat.le_trans (by decide) hd) 45 h) (fun r6 => ?_)
      refine y_eq0 (q := 66) (q' := 23) rfl rfl rfl rfl (fun c7 => ?_) (fun c8 => ?_)
      · skip
        exact hk v1 (z2) (z3) h
      · skip
        refine y_aload_n (q := 24) rfl rfl rfl ?_
        refine y_getL (q := 27) rfl rfl (by decide) atM0 rfl rfl ?_
        refine y_ldc2_w (u := 43) (q := 30) rfl rfl rfl ?_
        refine y_lcmp (q := 31) rfl rfl ?_
        refine y_ne0 (q := 38) (q' := 34) rfl rfl rfl rfl (fun c9 => ?_) (fun c10 => ?_)
        · skip
          refine y_iconst (x := 1) (q := 35) rfl (by decide) rfl ?_
          refine y_goto (q := 39) rfl rfl ?_
          refine y_istore_n (lo' := [some (.ref 0), some (.int v1), some (.int 1), z3]) (q := 40) rfl (Nat.le_of_ble_eq_true rfl) rfl rfl ?_
          refine y_aload_n (q := 41) rfl rfl rfl ?_
          refine y_callV (I := .invokevirtual 209) (idx := 209) (KD := 1) (J := 145) (mj := mj135) (as := [.ref 0]) (r := []) (q := 44) rfl (fun _ _ _ _ _ _ => rfl) rfl (by decide) rfl rfl rfl rfl rfl (Nat.le_of_ble_eq_true rfl) (d_recv atM0 (by decide) (by decide)) rfl (m_X7_next (Nat.le_trans (by decide) hd)  h) (fun g11 => ?_)
          refine y_aload_n (q := 45) rfl rfl rfl ?_
          refine y_callI (I := .invokevirtual 270) (idx := 270) (KD := 1) (J := 159) (mj := mj149) (as := [.ref 0]) (r := []) (q := 48) rfl (fun _ _ _ _ _ _ => rfl) rfl (by decide) rfl rfl rfl rfl rfl (Nat.le_of_ble_eq_true rfl) (d_recv atM0 (by decide) (by decide)) rfl (m_X7_term4 (Nat.le_trans (by decide) hd)  g11) (fun r12 g13 => ?_)
          refine y_istore_n (lo' := [some (.ref 0), some (.int v1), some (.int 1), some (.int r12)]) (q := 49) rfl (Nat.le_of_ble_eq_true rfl) rfl rfl ?_
          refine y_iload_n (q := 50) rfl rfl rfl ?_
          refine y_ifF (q := 53) rfl (by decide) rfl rfl ?_
          refine y_iload_n (q := 54) rfl rfl rfl ?_
          refine y_iload_n (q := 55) rfl rfl rfl ?_
          refine y_iadd (q := 56) rfl rfl ?_
          refine y_goto (q := 62) rfl rfl ?_
          refine y_istore_n (lo' := [some (.ref 0), some (.int (v1 + r12)), some (.int 1), some (.int r12)]) (q := 63) rfl (Nat.le_of_ble_eq_true rfl) rfl rfl ?_
          refine y_goto (q := 5) rfl rfl ?_
          exact lz_X7_added4_5 hd  k hk n (v1 + r12) g13 (some (.int 1)) (some (.int r12))
        · skip
          refine y_iconst (x := 0) (q := 39) rfl (by decide) rfl ?_
          refine y_istore_n (lo' := [some (.ref 0), some (.int v1), some (.int 0), z3]) (q := 40) rfl (Nat.le_of_ble_eq_true rfl) rfl rfl ?_
          refine y_aload_n (q := 41) rfl rfl rfl ?_
          refine y_callV (I := .invokevirtual 209) (idx := 209) (KD := 1) (J := 145) (mj := mj135) (as := [.ref 0]) (r := []) (q := 44) rfl (fun _ _ _ _ _ _ => rfl) rfl (by decide) rfl rfl rfl rfl rfl (Nat.le_of_ble_eq_true rfl) (d_recv atM0 (by decide) (by decide)) rfl (m_X7_next (Nat.le_trans (by decide) hd)  h) (fun g14 => ?_)
          refine y_aload_n (q := 45) rfl rfl rfl ?_
          refine y_callI (I := .invokevirtual 270) (idx := 270) (KD := 1) (J := 159) (mj := mj149) (as := [.ref 0]) (r := []) (q := 48) rfl (fun _ _ _ _ _ _ => rfl) rfl (by decide) rfl rfl rfl rfl rfl (Nat.le_of_ble_eq_true rfl) (d_recv atM0 (by decide) (by decide)) rfl (m_X7_term4 (Nat.le_trans (by decide) hd)  g14) (fun r15 g16 => ?_)
          refine y_istore_n (lo' := [some (.ref 0), some (.int v1), some (.int 0), some (.int r15)]) (q := 49) rfl (Nat.le_of_ble_eq_true rfl) rfl rfl ?_
          refine y_iload_n (q := 50) rfl rfl rfl ?_
          refine y_ifT (q := 59) rfl (by decide) rfl ?_
          refine y_iload_n (q := 60) rfl rfl rfl ?_
          refine y_iload_n (q := 61) rfl rfl rfl ?_
          refine y_isub (q := 62) rfl rfl ?_
          refine y_istore_n (lo' := [some (.ref 0), some (.int (v1 - r15)), some (.int 0), some (.int r15)]) (q := 63) rfl (Nat.le_of_ble_eq_true rfl) rfl rfl ?_
          refine y_goto (q := 5) rfl rfl ?_
          exact lz_X7_added4_5 hd  k hk n (v1 - r15) g16 (some (.int 0)) (some (.int r15))
    · skip
      refine y_aload_n (q := 24) rfl rfl rfl ?_
      refine y_getL (q := 27) rfl rfl (by decide) atM0 rfl rfl ?_
      refine y_ldc2_w (u := 43) (q := 30) rfl rfl rfl ?_
      refine y_lcmp (q := 31) rfl rfl ?_
      refine y_ne0 (q := 38) (q' := 34) rfl rfl rfl rfl (fun c17 => ?_) (fun c18 => ?_)
      · skip
        refine y_iconst (x := 1) (q := 35) rfl (by decide) rfl ?_
        refine y_goto (q := 39) rfl rfl ?_
        refine y_istore_n (lo' := [some (.ref 0), some (.int v1), some (.int 1), z3]) (q := 40) rfl (Nat.le_of_ble_eq_true rfl) rfl rfl ?_
        refine y_aload_n (q := 41) rfl rfl rfl ?_
        refine y_callV (I := .invokevirtual 209) (idx := 209) (KD := 1) (J := 145) (mj := mj135) (as := [.ref 0]) (r := []) (q := 44) rfl (fun _ _ _ _ _ _ => rfl) rfl (by decide) rfl rfl rfl rfl rfl (Nat.le_of_ble_eq_true rfl) (d_recv atM0 (by decide) (by decide)) rfl (m_X7_next (Nat.le_trans (by decide) hd)  h) (fun g19 => ?_)
        refine y_aload_n (q := 45) rfl rfl rfl ?_
        refine y_callI (I := .invokevirtual 270) (idx := 270) (KD := 1) (J := 159) (mj := mj149) (as := [.ref 0]) (r := []) (q := 48) rfl (fun _ _ _ _ _ _ => rfl) rfl (by decide) rfl rfl rfl rfl rfl (Nat.le_of_ble_eq_true rfl) (d_recv atM0 (by decide) (by decide)) rfl (m_X7_term4 (Nat.le_trans (by decide) hd)  g19) (fun r20 g21 => ?_)
        refine y_istore_n (lo' := [some (.ref 0), some (.int v1), some (.int 1), some (.int r20)]) (q := 49) rfl (Nat.le_of_ble_eq_true rfl) rfl rfl ?_
        refine y_iload_n (q := 50) rfl rfl rfl ?_
        refine y_ifF (q := 53) rfl (by decide) rfl rfl ?_
        refine y_iload_n (q := 54) rfl rfl rfl ?_
        refine y_iload_n (q := 55) rfl rfl rfl ?_
        refine y_iadd (q := 56) rfl rfl ?_
        refine y_goto (q := 62) rfl rfl ?_
        refine y_istore_n (lo' := [some (.ref 0), some (.int (v1 + r20)), some (.int 1), some (.int r20)]) (q := 63) rfl (Nat.le_of_ble_eq_true rfl) rfl rfl ?_
        refine y_goto (q := 5) rfl rfl ?_
        exact lz_X7_added4_5 hd  k hk n (v1 + r20) g21 (some (.int 1)) (some (.int r20))
      · skip
        refine y_iconst (x := 0) (q := 39) rfl (by decide) rfl ?_
        refine y_istore_n (lo' := [some (.ref 0), some (.int v1), some (.int 0), z3]) (q := 40) rfl (Nat.le_of_ble_eq_true rfl) rfl rfl ?_
        refine y_aload_n (q := 41) rfl rfl rfl ?_
        refine y_callV (I := .invokevirtual 209) (idx := 209) (KD := 1) (J := 145) (mj := mj135) (as := [.ref 0]) (r := []) (q := 44) rfl (fun _ _ _ _ _ _ => rfl) rfl (by decide) rfl rfl rfl rfl rfl (Nat.le_of_ble_eq_true rfl) (d_recv atM0 (by decide) (by decide)) rfl (m_X7_next (Nat.le_trans (by decide) hd)  h) (fun g22 => ?_)
        refine y_aload_n (q := 45) rfl rfl rfl ?_
        refine y_callI (I := .invokevirtual 270) (idx := 270) (KD := 1) (J := 159) (mj := mj149) (as := [.ref 0]) (r := []) (q := 48) rfl (fun _ _ _ _ _ _ => rfl) rfl (by decide) rfl rfl rfl rfl rfl (Nat.le_of_ble_eq_true rfl) (d_recv atM0 (by decide) (by decide)) rfl (m_X7_term4 (Nat.le_trans (by decide) hd)  g22) (fun r23 g24 => ?_)
        refine y_istore_n (lo' := [some (.ref 0), some (.int v1), some (.int 0), some (.int r23)]) (q := 49) rfl (Nat.le_of_ble_eq_true rfl) rfl rfl ?_
        refine y_iload_n (q := 50) rfl rfl rfl ?_
        refine y_ifT (q := 59) rfl (by decide) rfl ?_
        refine y_iload_n (q := 60) rfl rfl rfl ?_
        refine y_iload_n (q := 61) rfl rfl rfl ?_
        refine y_isub (q := 62) rfl rfl ?_
        refine y_istore_n (lo' := [some (.ref 0), some (.int (v1 - r23)), some (.int 0), some (.int r23)]) (q := 63) rfl (Nat.le_of_ble_eq_true rfl) rfl rfl ?_
        refine y_goto (q := 5) rfl rfl ?_
        exact lz_X7_added4_5 hd  k hk n (v1 - r23) g24 (some (.int 0)) (some (.int r23))
def f_X7_added4  (h : dH) : Option (Int32 × dH) := oI (f_X7_term4  h) (fun r1 g2 => l_X7_added4_5   (fun v1_25 g28 => some (v1_25, g28)) fuel0 r1 g2)
theorem m_X7_added4 {d : Nat} (hd : 13 ≤ d)  (h : dH) : dX shM d 150 [.ref 0] dI (f_X7_added4  h) h := by
  obtain ⟨e, rfl⟩ : ∃ e, d = e + 1 := ⟨d - 1, by omega⟩
  have hd : 12 ≤ e := by omega
  refine dX_of (mj := mj150) (lo := [some (.ref 0), none, none, none]) rfl (Nat.le_of_ble_eq_true rfl) rfl ?_
  unfold f_X7_added4
  refine y_aload_n (q := 1) rfl rfl rfl ?_
  refine y_callI (I := .invokevirtual 270) (idx := 270) (KD := 1) (J := 159) (mj := mj149) (as := [.ref 0]) (r := []) (q := 4) rfl (fun _ _ _ _ _ _ => rfl) rfl (by decide) rfl rfl rfl rfl rfl (Nat.le_of_ble_eq_true rfl) (d_recv atM0 (by decide) (by decide)) rfl (m_X7_term4 (Nat.le_trans (by decide) hd)  h) (fun r1 g2 => ?_)
  refine y_istore_n (lo' := [some (.ref 0), some (.int r1), none, none]) (q := 5) rfl (Nat.le_of_ble_eq_true rfl) rfl rfl ?_
  refine lz_X7_added4_5 hd   _ (fun v1_25 z26 z27 g28 => ?_) fuel0 r1 g2 (none) (none)
  refine y_iload_n (q := 67) rfl rfl rfl ?_
  exact y_retI rfl (by decide) rfl rfl
def f_X7_not4  (h : dH) : Option (Int32 × dH) := oP (f_X7_isWord 110 111 116 0 0 0 0 0 h) (fun r1 => if r1.toInt = 0 then (oI (f_X7_added4  h) (fun r4 g5 => oP (f_X7_isSign 60 g5) (fun r6 => if r6.toInt = 0 then (oP (f_X7_isSign 61 g5) (fun r9 => if r9.toInt = 0 then (some (r4, g5)) else (if (dlcmp (g5 0 25).toInt64 60).toInt = 0 then (oV (f_X7_next  g5) (fun g14 => oI (f_X7_added4  g14) (fun r15 g16 => if r4.toInt < r15.toInt then (some (1, g16)) else (some (0, g16))))) else (oV (f_X7_next  g5) (fun g19 => oI (f_X7_added4  g19) (fun r20 g21 => if r4.toInt = r20.toInt then (some (1, g21)) else (some (0, g21)))))))) else (if (dlcmp (g5 0 25).toInt64 60).toInt = 0 then (oV (f_X7_next  g5) (fun g26 => oI (f_X7_added4  g26) (fun r27 g28 => if r4.toInt < r27.toInt then (some (1, g28)) else (some (0, g28))))) else (oV (f_X7_next  g5) (fun g31 => oI (f_X7_added4  g31) (fun r32 g33 => if r4.toInt = r32.toInt then (some (1, g33)) else (some (0, g33))))))))) else (oI (f_X7_opens  h) (fun r36 g37 => if r36.toInt = 0 then (some (0, g37)) else (oI (f_X7_not5  g37) (fun r40 g41 => oH (dU g41 0 26 ((g41 0 26) - 1)) (fun g42 => if r40.toInt = 0 then (some (1, g42)) else (some (0, g42))))))))
theorem m_X7_not4 {d : Nat} (hd : 14 ≤ d)  (h : dH) : dX shM d 151 [.ref 0] dI (f_X7_not4  h) h := by
  obtain ⟨e, rfl⟩ : ∃ e, d = e + 1 := ⟨d - 1, by omega⟩
  have hd : 13 ≤ e := by omega
  refine dX_of (mj := mj151) (lo := [some (.ref 0), none, none, none]) rfl (Nat.le_of_ble_eq_true rfl) rfl ?_
  unfold f_X7_not4
  refine y_aload_n (q := 1) rfl rfl rfl ?_
  refine y_bipush (x := 110) (q := 3) rfl (by decide) rfl ?_
  refine y_bipush (x := 111) (q := 5) rfl (by decide) rfl ?_
  refine y_bipush (x := 116) (q := 7) rfl (by decide) rfl ?_
  refine y_iconst (x := 0) (q := 8) rfl (by decide) rfl ?_
  refine y_iconst (x := 0) (q := 9) rfl (by decide) rfl ?_
  refine y_iconst (x := 0) (q := 10) rfl (by decide) rfl ?_
  refine y_iconst (x := 0) (q := 11) rfl (by decide) rfl ?_
  refine y_iconst (x := 0) (q := 12) rfl (by decide) rfl ?_
  refine y_callP (I := .invokevirtual 212) (idx := 212) (KD := 1) (J := 148) (mj := mj138) (as := [.ref 0, .int 110, .int 111, .int 116, .int 0, .int 0, .int 0, .int 0, .int 0]) (r := []) (q := 15) rfl (fun _ _ _ _ _ _ => rfl) rfl (by decide) rfl rfl rfl rfl rfl (Nat.le_of_ble_eq_true rfl) (d_recv atM0 (by decide) (by decide)) rfl (m_X7_isWord (Nat.le_trans (by decide) hd) 110 111 116 0 0 0 0 0 h) (fun r1 => ?_)
  refine y_eq0 (q := 52) (q' := 18) rfl rfl rfl rfl (fun c2 => ?_) (fun c3 => ?_)
  · skip
    refine y_aload_n (q := 53) rfl rfl rfl ?_
    refine y_callI (I := .invokevirtual 273) (idx := 273) (KD := 1) (J := 160) (mj := mj150) (as := [.ref 0]) (r := []) (q := 56) rfl (fun _ _ _ _ _ _ => rfl) rfl (by decide) rfl rfl rfl rfl rfl (Nat.le_of_ble_eq_true rfl) (d_recv atM0 (by decide) (by decide)) rfl (m_X7_added4 (Nat.le_trans (by decide) hd)  h) (fun r4 g5 => ?_)
    refine y_istore_n (lo' := [some (.ref 0), some (.int r4), none, none]) (q := 57) rfl (Nat.le_of_ble_eq_true rfl) rfl rfl ?_
    refine y_aload_n (q := 58) rfl rfl rfl ?_
    refine y_bipush (x := 60) (q := 60) rfl (by decide) rfl ?_
    refine y_callP (I := .invokevirtual 234) (idx := 234) (KD := 1) (J := 149) (mj := mj139) (as := [.ref 0, .int 60]) (r := []) (q := 63) rfl (fun _ _ _ _ _ _ => rfl) rfl (by decide) rfl rfl rfl rfl rfl (Nat.le_of_ble_eq_true rfl) (d_recv atM0 (by decide) (by decide)) rfl (m_X7_isSign (Nat.le_trans (by decide) hd) 60 g5) (fun r6 => ?_)
    refine y_ne0 (q := 77) (q' := 66) rfl rfl rfl rfl (fun c7 => ?_) (fun c8 => ?_)
    · skip
      refine y_aload_n (q := 67) rfl rfl rfl ?_
      refine y_bipush (x := 61) (q := 69) rfl (by decide) rfl ?_
      refine y_callP (I := .invokevirtual 234) (idx := 234) (KD := 1) (J := 149) (mj := mj139) (as := [.ref 0, .int 61]) (r := []) (q := 72) rfl (fun _ _ _ _ _ _ => rfl) rfl (by decide) rfl rfl rfl rfl rfl (Nat.le_of_ble_eq_true rfl) (d_recv atM0 (by decide) (by decide)) rfl (m_X7_isSign (Nat.le_trans (by decide) hd) 61 g5) (fun r9 => ?_)
      refine y_ne0 (q := 77) (q' := 75) rfl rfl rfl rfl (fun c10 => ?_) (fun c11 => ?_)
      · skip
        refine y_iload_n (q := 76) rfl rfl rfl ?_
        exact y_retI rfl (by decide) rfl rfl
      · skip
        refine y_aload_n (q := 78) rfl rfl rfl ?_
        refine y_getL (q := 81) rfl rfl (by decide) atM0 rfl rfl ?_
        refine y_ldc2_w (u := 60) (q := 84) rfl rfl rfl ?_
        refine y_lcmp (q := 85) rfl rfl ?_
        refine y_ne0 (q := 92) (q' := 88) rfl rfl rfl rfl (fun c12 => ?_) (fun c13 => ?_)
        · skip
          refine y_iconst (x := 1) (q := 89) rfl (by decide) rfl ?_
          refine y_goto (q := 93) rfl rfl ?_
          refine y_istore_n (lo' := [some (.ref 0), some (.int r4), some (.int 1), none]) (q := 94) rfl (Nat.le_of_ble_eq_true rfl) rfl rfl ?_
          refine y_aload_n (q := 95) rfl rfl rfl ?_
          refine y_callV (I := .invokevirtual 209) (idx := 209) (KD := 1) (J := 145) (mj := mj135) (as := [.ref 0]) (r := []) (q := 98) rfl (fun _ _ _ _ _ _ => rfl) rfl (by decide) rfl rfl rfl rfl rfl (Nat.le_of_ble_eq_true rfl) (d_recv atM0 (by decide) (by decide)) rfl (m_X7_next (Nat.le_trans (by decide) hd)  g5) (fun g14 => ?_)
          refine y_aload_n (q := 99) rfl rfl rfl ?_
          refine y_callI (I := .invokevirtual 273) (idx := 273) (KD := 1) (J := 160) (mj := mj150) (as := [.ref 0]) (r := []) (q := 102) rfl (fun _ _ _ _ _ _ => rfl) rfl (by decide) rfl rfl rfl rfl rfl (Nat.le_of_ble_eq_true rfl) (d_recv atM0 (by decide) (by decide)) rfl (m_X7_added4 (Nat.le_trans (by decide) hd)  g14) (fun r15 g16 => ?_)
          refine y_istore_n (lo' := [some (.ref 0), some (.int r4), some (.int 1), some (.int r15)]) (q := 103) rfl (Nat.le_of_ble_eq_true rfl) rfl rfl ?_
          refine y_iload_n (q := 104) rfl rfl rfl ?_
          refine y_ifF (q := 107) rfl (by decide) rfl rfl ?_
          refine y_iload_n (q := 108) rfl rfl rfl ?_
          refine y_iload_n (q := 109) rfl rfl rfl ?_
          refine y_ge (q := 124) (q' := 112) rfl rfl rfl rfl rfl (fun c17 => ?_) (fun c18 => ?_)
          · skip
            refine y_goto (q := 120) rfl rfl ?_
            refine y_iconst (x := 1) (q := 121) rfl (by decide) rfl ?_
            refine y_goto (q := 125) rfl rfl ?_
            exact y_retI rfl (by decide) rfl rfl
          · skip
            refine y_iconst (x := 0) (q := 125) rfl (by decide) rfl ?_
            exact y_retI rfl (by decide) rfl rfl
        · skip
          refine y_iconst (x := 0) (q := 93) rfl (by decide) rfl ?_
          refine y_istore_n (lo' := [some (.ref 0), some (.int r4), some (.int 0), none]) (q := 94) rfl (Nat.le_of_ble_eq_true rfl) rfl rfl ?_
          refine y_aload_n (q := 95) rfl rfl rfl ?_
          refine y_callV (I := .invokevirtual 209) (idx := 209) (KD := 1) (J := 145) (mj := mj135) (as := [.ref 0]) (r := []) (q := 98) rfl (fun _ _ _ _ _ _ => rfl) rfl (by decide) rfl rfl rfl rfl rfl (Nat.le_of_ble_eq_true rfl) (d_recv atM0 (by decide) (by decide)) rfl (m_X7_next (Nat.le_trans (by decide) hd)  g5) (fun g19 => ?_)
          refine y_aload_n (q := 99) rfl rfl rfl ?_
          refine y_callI (I := .invokevirtual 273) (idx := 273) (KD := 1) (J := 160) (mj := mj150) (as := [.ref 0]) (r := []) (q := 102) rfl (fun _ _ _ _ _ _ => rfl) rfl (by decide) rfl rfl rfl rfl rfl (Nat.le_of_ble_eq_true rfl) (d_recv atM0 (by decide) (by decide)) rfl (m_X7_added4 (Nat.le_trans (by decide) hd)  g19) (fun r20 g21 => ?_)
          refine y_istore_n (lo' := [some (.ref 0), some (.int r4), some (.int 0), some (.int r20)]) (q := 103) rfl (Nat.le_of_ble_eq_true rfl) rfl rfl ?_
          refine y_iload_n (q := 104) rfl rfl rfl ?_
          refine y_ifT (q := 115) rfl (by decide) rfl ?_
          refine y_iload_n (q := 116) rfl rfl rfl ?_
          refine y_iload_n (q := 117) rfl rfl rfl ?_
          refine y_ne (q := 124) (q' := 120) rfl rfl rfl rfl rfl (fun c22 => ?_) (fun c23 => ?_)
          · skip
            refine y_iconst (x := 1) (q := 121) rfl (by decide) rfl ?_
            refine y_goto (q := 125) rfl rfl ?_
            exact y_retI rfl (by decide) rfl rfl
          · skip
            refine y_iconst (x := 0) (q := 125) rfl (by decide) rfl ?_
            exact y_retI rfl (by decide) rfl rfl
    · skip
      refine y_aload_n (q := 78) rfl rfl rfl ?_
      refine y_getL (q := 81) rfl rfl (by decide) atM0 rfl rfl ?_
      refine y_ldc2_w (u := 60) (q := 84) rfl rfl rfl ?_
      refine y_lcmp (q := 85) rfl rfl ?_
      refine y_ne0 (q := 92) (q' := 88) rfl rfl rfl rfl (fun c24 => ?_) (fun c25 => ?_)
      · skip
        refine y_iconst (x := 1) (q := 89) rfl (by decide) rfl ?_
        refine y_goto (q := 93) rfl rfl ?_
        refine y_istore_n (lo' := [some (.ref 0), some (.int r4), some (.int 1), none]) (q := 94) rfl (Nat.le_of_ble_eq_true rfl) rfl rfl ?_
        refine y_aload_n (q := 95) rfl rfl rfl ?_
        refine y_callV (I := .invokevirtual 209) (idx := 209) (KD := 1) (J := 145) (mj := mj135) (as := [.ref 0]) (r := []) (q := 98) rfl (fun _ _ _ _ _ _ => rfl) rfl (by decide) rfl rfl rfl rfl rfl (Nat.le_of_ble_eq_true rfl) (d_recv atM0 (by decide) (by decide)) rfl (m_X7_next (Nat.le_trans (by decide) hd)  g5) (fun g26 => ?_)
        refine y_aload_n (q := 99) rfl rfl rfl ?_
        refine y_callI (I := .invokevirtual 273) (idx := 273) (KD := 1) (J := 160) (mj := mj150) (as := [.ref 0]) (r := []) (q := 102) rfl (fun _ _ _ _ _ _ => rfl) rfl (by decide) rfl rfl rfl rfl rfl (Nat.le_of_ble_eq_true rfl) (d_recv atM0 (by decide) (by decide)) rfl (m_X7_added4 (Nat.le_trans (by decide) hd)  g26) (fun r27 g28 => ?_)
        refine y_istore_n (lo' := [some (.ref 0), some (.int r4), some (.int 1), some (.int r27)]) (q := 103) rfl (Nat.le_of_ble_eq_true rfl) rfl rfl ?_
        refine y_iload_n (q := 104) rfl rfl rfl ?_
        refine y_ifF (q := 107) rfl (by decide) rfl rfl ?_
        refine y_iload_n (q := 108) rfl rfl rfl ?_
        refine y_iload_n (q := 109) rfl rfl rfl ?_
        refine y_ge (q := 124) (q' := 112) rfl rfl rfl rfl rfl (fun c29 => ?_) (fun c30 => ?_)
        · skip
          refine y_goto (q := 120) rfl rfl ?_
          refine y_iconst (x := 1) (q := 121) rfl (by decide) rfl ?_
          refine y_goto (q := 125) rfl rfl ?_
          exact y_retI rfl (by decide) rfl rfl
        · skip
          refine y_iconst (x := 0) (q := 125) rfl (by decide) rfl ?_
          exact y_retI rfl (by decide) rfl rfl
      · skip
        refine y_iconst (x := 0) (q := 93) rfl (by decide) rfl ?_
        refine y_istore_n (lo' := [some (.ref 0), some (.int r4), some (.int 0), none]) (q := 94) rfl (Nat.le_of_ble_eq_true rfl) rfl rfl ?_
        refine y_aload_n (q := 95) rfl rfl rfl ?_
        refine y_callV (I := .invokevirtual 209) (idx := 209) (KD := 1) (J := 145) (mj := mj135) (as := [.ref 0]) (r := []) (q := 98) rfl (fun _ _ _ _ _ _ => rfl) rfl (by decide) rfl rfl rfl rfl rfl (Nat.le_of_ble_eq_true rfl) (d_recv atM0 (by decide) (by decide)) rfl (m_X7_next (Nat.le_trans (by decide) hd)  g5) (fun g31 => ?_)
        refine y_aload_n (q := 99) rfl rfl rfl ?_
        refine y_callI (I := .invokevirtual 273) (idx := 273) (KD := 1) (J := 160) (mj := mj150) (as := [.ref 0]) (r := []) (q := 102) rfl (fun _ _ _ _ _ _ => rfl) rfl (by decide) rfl rfl rfl rfl rfl (Nat.le_of_ble_eq_true rfl) (d_recv atM0 (by decide) (by decide)) rfl (m_X7_added4 (Nat.le_trans (by decide) hd)  g31) (fun r32 g33 => ?_)
        refine y_istore_n (lo' := [some (.ref 0), some (.int r4), some (.int 0), some (.int r32)]) (q := 103) rfl (Nat.le_of_ble_eq_true rfl) rfl rfl ?_
        refine y_iload_n (q := 104) rfl rfl rfl ?_
        refine y_ifT (q := 115) rfl (by decide) rfl ?_
        refine y_iload_n (q := 116) rfl rfl rfl ?_
        refine y_iload_n (q := 117) rfl rfl rfl ?_
        refine y_ne (q := 124) (q' := 120) rfl rfl rfl rfl rfl (fun c34 => ?_) (fun c35 => ?_)
        · skip
          refine y_iconst (x := 1) (q := 121) rfl (by decide) rfl ?_
          refine y_goto (q := 125) rfl rfl ?_
          exact y_retI rfl (by decide) rfl rfl
        · skip
          refine y_iconst (x := 0) (q := 125) rfl (by decide) rfl ?_
          exact y_retI rfl (by decide) rfl rfl
  · skip
    refine y_aload_n (q := 19) rfl rfl rfl ?_
    refine y_callI (I := .invokevirtual 237) (idx := 237) (KD := 1) (J := 150) (mj := mj140) (as := [.ref 0]) (r := []) (q := 22) rfl (fun _ _ _ _ _ _ => rfl) rfl (by decide) rfl rfl rfl rfl rfl (Nat.le_of_ble_eq_true rfl) (d_recv atM0 (by decide) (by decide)) rfl (m_X7_opens (Nat.le_trans (by decide) hd)  h) (fun r36 g37 => ?_)
    refine y_ne0 (q := 27) (q' := 25) rfl rfl rfl rfl (fun c38 => ?_) (fun c39 => ?_)
    · skip
      refine y_iconst (x := 0) (q := 26) rfl (by decide) rfl ?_
      exact y_retI rfl (by decide) rfl rfl
    · skip
      refine y_aload_n (q := 28) rfl rfl rfl ?_
      refine y_callI (I := .invokevirtual 258) (idx := 258) (KD := 1) (J := 155) (mj := mj145) (as := [.ref 0]) (r := []) (q := 31) rfl (fun _ _ _ _ _ _ => rfl) rfl (by decide) rfl rfl rfl rfl rfl (Nat.le_of_ble_eq_true rfl) (d_recv atM0 (by decide) (by decide)) rfl (m_X7_not5 (Nat.le_trans (by decide) hd)  g37) (fun r40 g41 => ?_)
      refine y_istore_n (lo' := [some (.ref 0), some (.int r40), none, none]) (q := 32) rfl (Nat.le_of_ble_eq_true rfl) rfl rfl ?_
      refine y_aload_n (q := 33) rfl rfl rfl ?_
      refine y_dup (q := 34) rfl rfl ?_
      refine y_getI (q := 37) rfl rfl (by decide) atM0 rfl rfl ?_
      refine y_iconst (x := 1) (q := 38) rfl (by decide) rfl ?_
      refine y_isub (q := 39) rfl rfl ?_
      refine y_putI (q := 42) rfl rfl (by decide) atM0 rfl rfl rfl rfl (fun g42 => ?_)
      refine y_iload_n (q := 43) rfl rfl rfl ?_
      refine y_ne0 (q := 50) (q' := 46) rfl rfl rfl rfl (fun c43 => ?_) (fun c44 => ?_)
      · skip
        refine y_iconst (x := 1) (q := 47) rfl (by decide) rfl ?_
        refine y_goto (q := 51) rfl rfl ?_
        exact y_retI rfl (by decide) rfl rfl
      · skip
        refine y_iconst (x := 0) (q := 51) rfl (by decide) rfl ?_
        exact y_retI rfl (by decide) rfl rfl
def l_X7_both4_5  (k : Int32 → dH → Option (Int32 × dH)) : Nat → Int32 → dH → Option (Int32 × dH)
  | 0, _, _ => none
  | n + 1, v1, h => oP (f_X7_isWord 97 110 100 0 0 0 0 0 h) (fun r3 => if r3.toInt = 0 then (k v1 h) else (oV (f_X7_next  h) (fun g6 => oI (f_X7_not4  g6) (fun r7 g8 => if v1.toInt = 0 then (l_X7_both4_5  k n 0 g8) else (if r7.toInt = 0 then (l_X7_both4_5  k n 0 g8) else (l_X7_both4_5  k n 1 g8))))))
theorem lz_X7_both4_5 {d : Nat} (hd : 14 ≤ d)  (k : Int32 → dH → Option (Int32 × dH)) (hk : ∀ (v1 : Int32) (z2 : Option Value) (h : dH), dY shM d mj152 dI (k v1 h) 49 [some (.ref 0), some (.int v1), z2] [] h) : ∀ (n : Nat) (v1 : Int32) (h : dH) (z2 : Option Value), dY shM d mj152 dI (l_X7_both4_5  k n v1 h) 5 [some (.ref 0), some (.int v1), z2] [] h
  | 0, _, _, _ => dY_none
  | n + 1, v1, h, z2 => by
    rw [l_X7_both4_5]
    refine y_aload_n (q := 6) rfl rfl rfl ?_
    refine y_bipush (x := 97) (q := 8) rfl (by decide) rfl ?_
    refine y_bipush (x := 110) (q := 10) rfl (by decide) rfl ?_
    refine y_bipush (x := 100) (q := 12) rfl (by decide) rfl ?_
    refine y_iconst (x := 0) (q := 13) rfl (by decide) rfl ?_
    refine y_iconst (x := 0) (q := 14) rfl (by decide) rfl ?_
    refine y_iconst (x := 0) (q := 15) rfl (by decide) rfl ?_
    refine y_iconst (x := 0) (q := 16) rfl (by decide) rfl ?_
    refine y_iconst (x := 0) (q := 17) rfl (by decide) rfl ?_
    refine y_callP (I := .invokevirtual 212) (idx := 212) (KD := 1) (J := 148) (mj := mj138) (as := [.ref 0, .int 97, .int 110, .int 100, .int 0, .int 0, .int 0, .int 0, .int 0]) (r := []) (q := 20) rfl (fun _ _ _ _ _ _ => rfl) rfl (by decide) rfl rfl rfl rfl rfl (Nat.le_of_ble_eq_true rfl) (d_recv atM0 (by decide) (by decide)) rfl (m_X7_isWord (Nat.le_trans (by decide) hd) 97 110 100 0 0 0 0 0 h) (fun r3 => ?_)
    refine y_eq0 (q := 49) (q' := 23) rfl rfl rfl rfl (fun c4 => ?_) (fun c5 => ?_)
    · skip
      exact hk v1 (z2) h
    · skip
      refine y_aload_n (q := 24) rfl rfl rfl ?_
      refine y_callV (I := .invokevirtual 209) (idx := 209) (KD := 1) (J := 145) (mj := mj135) (as := [.ref 0]) (r := []) (q := 27) rfl (fun _ _ _ _ _ _ => rfl) rfl (by decide) rfl rfl rfl rfl rfl (Nat.le_of_ble_eq_true rfl) (d_recv atM0 (by decide) (by decide)) rfl (m_X7_next (Nat.le_trans (by decide) hd)  h) (fun g6 => ?_)
      refine y_aload_n (q := 28) rfl rfl rfl ?_
      refine y_callI (I := .invokevirtual 276) (idx := 276) (KD := 1) (J := 161) (mj := mj151) (as := [.ref 0]) (r := []) (q := 31) rfl (fun _ _ _ _ _ _ => rfl) rfl (by decide) rfl rfl rfl rfl rfl (Nat.le_of_ble_eq_true rfl) (d_recv atM0 (by decide) (by decide)) rfl (m_X7_not4 (Nat.le_trans (by decide) hd)  g6) (fun r7 g8 => ?_)
      refine y_istore_n (lo' := [some (.ref 0), some (.int v1), some (.int r7)]) (q := 32) rfl (Nat.le_of_ble_eq_true rfl) rfl rfl ?_
      refine y_iload_n (q := 33) rfl rfl rfl ?_
      refine y_eq0 (q := 44) (q' := 36) rfl rfl rfl rfl (fun c9 => ?_) (fun c10 => ?_)
      · skip
        refine y_iconst (x := 0) (q := 45) rfl (by decide) rfl ?_
        refine y_istore_n (lo' := [some (.ref 0), some (.int 0), some (.int r7)]) (q := 46) rfl (Nat.le_of_ble_eq_true rfl) rfl rfl ?_
        refine y_goto (q := 5) rfl rfl ?_
        exact lz_X7_both4_5 hd  k hk n 0 g8 (some (.int r7))
      · skip
        refine y_iload_n (q := 37) rfl rfl rfl ?_
        refine y_eq0 (q := 44) (q' := 40) rfl rfl rfl rfl (fun c11 => ?_) (fun c12 => ?_)
        · skip
          refine y_iconst (x := 0) (q := 45) rfl (by decide) rfl ?_
          refine y_istore_n (lo' := [some (.ref 0), some (.int 0), some (.int r7)]) (q := 46) rfl (Nat.le_of_ble_eq_true rfl) rfl rfl ?_
          refine y_goto (q := 5) rfl rfl ?_
          exact lz_X7_both4_5 hd  k hk n 0 g8 (some (.int r7))
        · skip
          refine y_iconst (x := 1) (q := 41) rfl (by decide) rfl ?_
          refine y_goto (q := 45) rfl rfl ?_
          refine y_istore_n (lo' := [some (.ref 0), some (.int 1), some (.int r7)]) (q := 46) rfl (Nat.le_of_ble_eq_true rfl) rfl rfl ?_
          refine y_goto (q := 5) rfl rfl ?_
          exact lz_X7_both4_5 hd  k hk n 1 g8 (some (.int r7))
def f_X7_both4  (h : dH) : Option (Int32 × dH) := oI (f_X7_not4  h) (fun r1 g2 => l_X7_both4_5   (fun v1_13 g15 => some (v1_13, g15)) fuel0 r1 g2)
theorem m_X7_both4 {d : Nat} (hd : 15 ≤ d)  (h : dH) : dX shM d 152 [.ref 0] dI (f_X7_both4  h) h := by
  obtain ⟨e, rfl⟩ : ∃ e, d = e + 1 := ⟨d - 1, by omega⟩
  have hd : 14 ≤ e := by omega
  refine dX_of (mj := mj152) (lo := [some (.ref 0), none, none]) rfl (Nat.le_of_ble_eq_true rfl) rfl ?_
  unfold f_X7_both4
  refine y_aload_n (q := 1) rfl rfl rfl ?_
  refine y_callI (I := .invokevirtual 276) (idx := 276) (KD := 1) (J := 161) (mj := mj151) (as := [.ref 0]) (r := []) (q := 4) rfl (fun _ _ _ _ _ _ => rfl) rfl (by decide) rfl rfl rfl rfl rfl (Nat.le_of_ble_eq_true rfl) (d_recv atM0 (by decide) (by decide)) rfl (m_X7_not4 (Nat.le_trans (by decide) hd)  h) (fun r1 g2 => ?_)
  refine y_istore_n (lo' := [some (.ref 0), some (.int r1), none]) (q := 5) rfl (Nat.le_of_ble_eq_true rfl) rfl rfl ?_
  refine lz_X7_both4_5 hd   _ (fun v1_13 z14 g15 => ?_) fuel0 r1 g2 (none)
  refine y_iload_n (q := 50) rfl rfl rfl ?_
  exact y_retI rfl (by decide) rfl rfl
def l_X7_either4_5  (k : Int32 → dH → Option (Int32 × dH)) : Nat → Int32 → dH → Option (Int32 × dH)
  | 0, _, _ => none
  | n + 1, v1, h => oP (f_X7_isWord 111 114 0 0 0 0 0 0 h) (fun r3 => if r3.toInt = 0 then (k v1 h) else (oV (f_X7_next  h) (fun g6 => oI (f_X7_both4  g6) (fun r7 g8 => if v1.toInt = 0 then (if r7.toInt = 0 then (l_X7_either4_5  k n 0 g8) else (l_X7_either4_5  k n 1 g8)) else (l_X7_either4_5  k n 1 g8)))))
theorem lz_X7_either4_5 {d : Nat} (hd : 15 ≤ d)  (k : Int32 → dH → Option (Int32 × dH)) (hk : ∀ (v1 : Int32) (z2 : Option Value) (h : dH), dY shM d mj153 dI (k v1 h) 48 [some (.ref 0), some (.int v1), z2] [] h) : ∀ (n : Nat) (v1 : Int32) (h : dH) (z2 : Option Value), dY shM d mj153 dI (l_X7_either4_5  k n v1 h) 5 [some (.ref 0), some (.int v1), z2] [] h
  | 0, _, _, _ => dY_none
  | n + 1, v1, h, z2 => by
    rw [l_X7_either4_5]
    refine y_aload_n (q := 6) rfl rfl rfl ?_
    refine y_bipush (x := 111) (q := 8) rfl (by decide) rfl ?_
    refine y_bipush (x := 114) (q := 10) rfl (by decide) rfl ?_
    refine y_iconst (x := 0) (q := 11) rfl (by decide) rfl ?_
    refine y_iconst (x := 0) (q := 12) rfl (by decide) rfl ?_
    refine y_iconst (x := 0) (q := 13) rfl (by decide) rfl ?_
    refine y_iconst (x := 0) (q := 14) rfl (by decide) rfl ?_
    refine y_iconst (x := 0) (q := 15) rfl (by decide) rfl ?_
    refine y_iconst (x := 0) (q := 16) rfl (by decide) rfl ?_
    refine y_callP (I := .invokevirtual 212) (idx := 212) (KD := 1) (J := 148) (mj := mj138) (as := [.ref 0, .int 111, .int 114, .int 0, .int 0, .int 0, .int 0, .int 0, .int 0]) (r := []) (q := 19) rfl (fun _ _ _ _ _ _ => rfl) rfl (by decide) rfl rfl rfl rfl rfl (Nat.le_of_ble_eq_true rfl) (d_recv atM0 (by decide) (by decide)) rfl (m_X7_isWord (Nat.le_trans (by decide) hd) 111 114 0 0 0 0 0 0 h) (fun r3 => ?_)
    refine y_eq0 (q := 48) (q' := 22) rfl rfl rfl rfl (fun c4 => ?_) (fun c5 => ?_)
    · skip
      exact hk v1 (z2) h
    · skip
      refine y_aload_n (q := 23) rfl rfl rfl ?_
      refine y_callV (I := .invokevirtual 209) (idx := 209) (KD := 1) (J := 145) (mj := mj135) (as := [.ref 0]) (r := []) (q := 26) rfl (fun _ _ _ _ _ _ => rfl) rfl (by decide) rfl rfl rfl rfl rfl (Nat.le_of_ble_eq_true rfl) (d_recv atM0 (by decide) (by decide)) rfl (m_X7_next (Nat.le_trans (by decide) hd)  h) (fun g6 => ?_)
      refine y_aload_n (q := 27) rfl rfl rfl ?_
      refine y_callI (I := .invokevirtual 279) (idx := 279) (KD := 1) (J := 162) (mj := mj152) (as := [.ref 0]) (r := []) (q := 30) rfl (fun _ _ _ _ _ _ => rfl) rfl (by decide) rfl rfl rfl rfl rfl (Nat.le_of_ble_eq_true rfl) (d_recv atM0 (by decide) (by decide)) rfl (m_X7_both4 (Nat.le_trans (by decide) hd)  g6) (fun r7 g8 => ?_)
      refine y_istore_n (lo' := [some (.ref 0), some (.int v1), some (.int r7)]) (q := 31) rfl (Nat.le_of_ble_eq_true rfl) rfl rfl ?_
      refine y_iload_n (q := 32) rfl rfl rfl ?_
      refine y_ne0 (q := 39) (q' := 35) rfl rfl rfl rfl (fun c9 => ?_) (fun c10 => ?_)
      · skip
        refine y_iload_n (q := 36) rfl rfl rfl ?_
        refine y_eq0 (q := 43) (q' := 39) rfl rfl rfl rfl (fun c11 => ?_) (fun c12 => ?_)
        · skip
          refine y_iconst (x := 0) (q := 44) rfl (by decide) rfl ?_
          refine y_istore_n (lo' := [some (.ref 0), some (.int 0), some (.int r7)]) (q := 45) rfl (Nat.le_of_ble_eq_true rfl) rfl rfl ?_
          refine y_goto (q := 5) rfl rfl ?_
          exact lz_X7_either4_5 hd  k hk n 0 g8 (some (.int r7))
        · skip
          refine y_iconst (x := 1) (q := 40) rfl (by decide) rfl ?_
          refine y_goto (q := 44) rfl rfl ?_
          refine y_istore_n (lo' := [some (.ref 0), some (.int 1), some (.int r7)]) (q := 45) rfl (Nat.le_of_ble_eq_true rfl) rfl rfl ?_
          refine y_goto (q := 5) rfl rfl ?_
          exact lz_X7_either4_5 hd  k hk n 1 g8 (some (.int r7))
      · skip
        refine y_iconst (x := 1) (q := 40) rfl (by decide) rfl ?_
        refine y_goto (q := 44) rfl rfl ?_
        refine y_istore_n (lo' := [some (.ref 0), some (.int 1), some (.int r7)]) (q := 45) rfl (Nat.le_of_ble_eq_true rfl) rfl rfl ?_
        refine y_goto (q := 5) rfl rfl ?_
        exact lz_X7_either4_5 hd  k hk n 1 g8 (some (.int r7))
def f_X7_either4  (h : dH) : Option (Int32 × dH) := oI (f_X7_both4  h) (fun r1 g2 => l_X7_either4_5   (fun v1_13 g15 => some (v1_13, g15)) fuel0 r1 g2)
theorem m_X7_either4 {d : Nat} (hd : 16 ≤ d)  (h : dH) : dX shM d 153 [.ref 0] dI (f_X7_either4  h) h := by
  obtain ⟨e, rfl⟩ : ∃ e, d = e + 1 := ⟨d - 1, by omega⟩
  have hd : 15 ≤ e := by omega
  refine dX_of (mj := mj153) (lo := [some (.ref 0), none, none]) rfl (Nat.le_of_ble_eq_true rfl) rfl ?_
  unfold f_X7_either4
  refine y_aload_n (q := 1) rfl rfl rfl ?_
  refine y_callI (I := .invokevirtual 279) (idx := 279) (KD := 1) (J := 162) (mj := mj152) (as := [.ref 0]) (r := []) (q := 4) rfl (fun _ _ _ _ _ _ => rfl) rfl (by decide) rfl rfl rfl rfl rfl (Nat.le_of_ble_eq_true rfl) (d_recv atM0 (by decide) (by decide)) rfl (m_X7_both4 (Nat.le_trans (by decide) hd)  h) (fun r1 g2 => ?_)
  refine y_istore_n (lo' := [some (.ref 0), some (.int r1), none]) (q := 5) rfl (Nat.le_of_ble_eq_true rfl) rfl rfl ?_
  refine lz_X7_either4_5 hd   _ (fun v1_13 z14 g15 => ?_) fuel0 r1 g2 (none)
  refine y_iload_n (q := 49) rfl rfl rfl ?_
  exact y_retI rfl (by decide) rfl rfl
def f_X7_atom3  (h : dH) : Option (Int32 × dH) := oP (f_X7_isSign 45 h) (fun r1 => if r1.toInt = 0 then (oP (f_X7_isSign 40 h) (fun r4 => if r4.toInt = 0 then (if (h 0 27).toInt = 0 then (if (h 0 23).toInt = 2 then (oV (f_X7_next  h) (fun g11 => some ((h 0 25).toInt64.toInt32, g11))) else (if (h 0 27).toInt = 0 then (if (h 0 23).toInt = 1 then (oI (f_X7_name  h) (fun r16 g17 => if (g17 0 27).toInt = 0 then (oV (f_X7_next  g17) (fun g20 => some (r16, g20))) else (some (r16, g17)))) else (oV (f_X7_fail  h) (fun g21 => some (0, g21)))) else (oV (f_X7_fail  h) (fun g22 => some (0, g22))))) else (if (h 0 27).toInt = 0 then (if (h 0 23).toInt = 1 then (oI (f_X7_name  h) (fun r27 g28 => if (g28 0 27).toInt = 0 then (oV (f_X7_next  g28) (fun g31 => some (r27, g31))) else (some (r27, g28)))) else (oV (f_X7_fail  h) (fun g32 => some (0, g32)))) else (oV (f_X7_fail  h) (fun g33 => some (0, g33))))) else (oI (f_X7_opens  h) (fun r34 g35 => if r34.toInt = 0 then (some (0, g35)) else (oI (f_X7_either4  g35) (fun r38 g39 => oP (f_X7_isSign 41 g39) (fun r40 => if r40.toInt = 0 then (oV (f_X7_fail  g39) (fun g43 => oH (dU g43 0 26 ((g43 0 26) - 1)) (fun g44 => if (g44 0 27).toInt = 0 then (oV (f_X7_next  g44) (fun g47 => some (r38, g47))) else (some (r38, g44))))) else (oH (dU g39 0 26 ((g39 0 26) - 1)) (fun g48 => if (g48 0 27).toInt = 0 then (oV (f_X7_next  g48) (fun g51 => some (r38, g51))) else (some (r38, g48))))))))))) else (oI (f_X7_opens  h) (fun r52 g53 => if r52.toInt = 0 then (some (0, g53)) else (oI (f_X7_atom4  g53) (fun r56 g57 => oH (dU g57 0 26 ((g57 0 26) - 1)) (fun g58 => some ((-r56), g58)))))))
theorem m_X7_atom3 {d : Nat} (hd : 17 ≤ d)  (h : dH) : dX shM d 154 [.ref 0] dI (f_X7_atom3  h) h := by
  obtain ⟨e, rfl⟩ : ∃ e, d = e + 1 := ⟨d - 1, by omega⟩
  have hd : 16 ≤ e := by omega
  refine dX_of (mj := mj154) (lo := [some (.ref 0), none]) rfl (Nat.le_of_ble_eq_true rfl) rfl ?_
  unfold f_X7_atom3
  refine y_iconst (x := 0) (q := 1) rfl (by decide) rfl ?_
  refine y_istore_n (lo' := [some (.ref 0), some (.int 0)]) (q := 2) rfl (Nat.le_of_ble_eq_true rfl) rfl rfl ?_
  refine y_aload_n (q := 3) rfl rfl rfl ?_
  refine y_bipush (x := 45) (q := 5) rfl (by decide) rfl ?_
  refine y_callP (I := .invokevirtual 234) (idx := 234) (KD := 1) (J := 149) (mj := mj139) (as := [.ref 0, .int 45]) (r := []) (q := 8) rfl (fun _ _ _ _ _ _ => rfl) rfl (by decide) rfl rfl rfl rfl rfl (Nat.le_of_ble_eq_true rfl) (d_recv atM0 (by decide) (by decide)) rfl (m_X7_isSign (Nat.le_trans (by decide) hd) 45 h) (fun r1 => ?_)
  refine y_eq0 (q := 37) (q' := 11) rfl rfl rfl rfl (fun c2 => ?_) (fun c3 => ?_)
  · skip
    refine y_aload_n (q := 38) rfl rfl rfl ?_
    refine y_bipush (x := 40) (q := 40) rfl (by decide) rfl ?_
    refine y_callP (I := .invokevirtual 234) (idx := 234) (KD := 1) (J := 149) (mj := mj139) (as := [.ref 0, .int 40]) (r := []) (q := 43) rfl (fun _ _ _ _ _ _ => rfl) rfl (by decide) rfl rfl rfl rfl rfl (Nat.le_of_ble_eq_true rfl) (d_recv atM0 (by decide) (by decide)) rfl (m_X7_isSign (Nat.le_trans (by decide) hd) 40 h) (fun r4 => ?_)
    refine y_eq0 (q := 95) (q' := 46) rfl rfl rfl rfl (fun c5 => ?_) (fun c6 => ?_)
    · skip
      refine y_aload_n (q := 96) rfl rfl rfl ?_
      refine y_getI (q := 99) rfl rfl (by decide) atM0 rfl rfl ?_
      refine y_ne0 (q := 123) (q' := 102) rfl rfl rfl rfl (fun c7 => ?_) (fun c8 => ?_)
      · skip
        refine y_aload_n (q := 103) rfl rfl rfl ?_
        refine y_getI (q := 106) rfl rfl (by decide) atM0 rfl rfl ?_
        refine y_iconst (x := 2) (q := 107) rfl (by decide) rfl ?_
        refine y_ne (q := 123) (q' := 110) rfl rfl (by decide) rfl rfl (fun c9 => ?_) (fun c10 => ?_)
        · skip
          refine y_aload_n (q := 111) rfl rfl rfl ?_
          refine y_getL (q := 114) rfl rfl (by decide) atM0 rfl rfl ?_
          refine y_l2i (q := 115) rfl rfl ?_
          refine y_istore_n (lo' := [some (.ref 0), some (.int (h 0 25).toInt64.toInt32)]) (q := 116) rfl (Nat.le_of_ble_eq_true rfl) rfl rfl ?_
          refine y_aload_n (q := 117) rfl rfl rfl ?_
          refine y_callV (I := .invokevirtual 209) (idx := 209) (KD := 1) (J := 145) (mj := mj135) (as := [.ref 0]) (r := []) (q := 120) rfl (fun _ _ _ _ _ _ => rfl) rfl (by decide) rfl rfl rfl rfl rfl (Nat.le_of_ble_eq_true rfl) (d_recv atM0 (by decide) (by decide)) rfl (m_X7_next (Nat.le_trans (by decide) hd)  h) (fun g11 => ?_)
          refine y_goto (q := 161) rfl rfl ?_
          refine y_iload_n (q := 162) rfl rfl rfl ?_
          exact y_retI rfl (by decide) rfl rfl
        · skip
          refine y_aload_n (q := 124) rfl rfl rfl ?_
          refine y_getI (q := 127) rfl rfl (by decide) atM0 rfl rfl ?_
          refine y_ne0 (q := 157) (q' := 130) rfl rfl rfl rfl (fun c12 => ?_) (fun c13 => ?_)
          · skip
            refine y_aload_n (q := 131) rfl rfl rfl ?_
            refine y_getI (q := 134) rfl rfl (by decide) atM0 rfl rfl ?_
            refine y_iconst (x := 1) (q := 135) rfl (by decide) rfl ?_
            refine y_ne (q := 157) (q' := 138) rfl rfl (by decide) rfl rfl (fun c14 => ?_) (fun c15 => ?_)
            · skip
              refine y_aload_n (q := 139) rfl rfl rfl ?_
              refine y_callI (I := .invokevirtual 241) (idx := 241) (KD := 1) (J := 151) (mj := mj141) (as := [.ref 0]) (r := []) (q := 142) rfl (fun _ _ _ _ _ _ => rfl) rfl (by decide) rfl rfl rfl rfl rfl (Nat.le_of_ble_eq_true rfl) (d_recv atM0 (by decide) (by decide)) rfl (m_X7_name (Nat.le_trans (by decide) hd)  h) (fun r16 g17 => ?_)
              refine y_istore_n (lo' := [some (.ref 0), some (.int r16)]) (q := 143) rfl (Nat.le_of_ble_eq_true rfl) rfl rfl ?_
              refine y_aload_n (q := 144) rfl rfl rfl ?_
              refine y_getI (q := 147) rfl rfl (by decide) atM0 rfl rfl ?_
              refine y_ne0 (q := 161) (q' := 150) rfl rfl rfl rfl (fun c18 => ?_) (fun c19 => ?_)
              · skip
                refine y_aload_n (q := 151) rfl rfl rfl ?_
                refine y_callV (I := .invokevirtual 209) (idx := 209) (KD := 1) (J := 145) (mj := mj135) (as := [.ref 0]) (r := []) (q := 154) rfl (fun _ _ _ _ _ _ => rfl) rfl (by decide) rfl rfl rfl rfl rfl (Nat.le_of_ble_eq_true rfl) (d_recv atM0 (by decide) (by decide)) rfl (m_X7_next (Nat.le_trans (by decide) hd)  g17) (fun g20 => ?_)
                refine y_goto (q := 161) rfl rfl ?_
                refine y_iload_n (q := 162) rfl rfl rfl ?_
                exact y_retI rfl (by decide) rfl rfl
              · skip
                refine y_iload_n (q := 162) rfl rfl rfl ?_
                exact y_retI rfl (by decide) rfl rfl
            · skip
              refine y_aload_n (q := 158) rfl rfl rfl ?_
              refine y_callV (I := .invokevirtual 206) (idx := 206) (KD := 1) (J := 146) (mj := mj136) (as := [.ref 0]) (r := []) (q := 161) rfl (fun _ _ _ _ _ _ => rfl) rfl (by decide) rfl rfl rfl rfl rfl (Nat.le_of_ble_eq_true rfl) (d_recv atM0 (by decide) (by decide)) rfl (m_X7_fail (Nat.le_trans (by decide) hd)  h) (fun g21 => ?_)
              refine y_iload_n (q := 162) rfl rfl rfl ?_
              exact y_retI rfl (by decide) rfl rfl
          · skip
            refine y_aload_n (q := 158) rfl rfl rfl ?_
            refine y_callV (I := .invokevirtual 206) (idx := 206) (KD := 1) (J := 146) (mj := mj136) (as := [.ref 0]) (r := []) (q := 161) rfl (fun _ _ _ _ _ _ => rfl) rfl (by decide) rfl rfl rfl rfl rfl (Nat.le_of_ble_eq_true rfl) (d_recv atM0 (by decide) (by decide)) rfl (m_X7_fail (Nat.le_trans (by decide) hd)  h) (fun g22 => ?_)
            refine y_iload_n (q := 162) rfl rfl rfl ?_
            exact y_retI rfl (by decide) rfl rfl
      · skip
        refine y_aload_n (q := 124) rfl rfl rfl ?_
        refine y_getI (q := 127) rfl rfl (by decide) atM0 rfl rfl ?_
        refine y_ne0 (q := 157) (q' := 130) rfl rfl rfl rfl (fun c23 => ?_) (fun c24 => ?_)
        · skip
          refine y_aload_n (q := 131) rfl rfl rfl ?_
          refine y_getI (q := 134) rfl rfl (by decide) atM0 rfl rfl ?_
          refine y_iconst (x := 1) (q := 135) rfl (by decide) rfl ?_
          refine y_ne (q := 157) (q' := 138) rfl rfl (by decide) rfl rfl (fun c25 => ?_) (fun c26 => ?_)
          · skip
            refine y_aload_n (q := 139) rfl rfl rfl ?_
            refine y_callI (I := .invokevirtual 241) (idx := 241) (KD := 1) (J := 151) (mj := mj141) (as := [.ref 0]) (r := []) (q := 142) rfl (fun _ _ _ _ _ _ => rfl) rfl (by decide) rfl rfl rfl rfl rfl (Nat.le_of_ble_eq_true rfl) (d_recv atM0 (by decide) (by decide)) rfl (m_X7_name (Nat.le_trans (by decide) hd)  h) (fun r27 g28 => ?_)
            refine y_istore_n (lo' := [some (.ref 0), some (.int r27)]) (q := 143) rfl (Nat.le_of_ble_eq_true rfl) rfl rfl ?_
            refine y_aload_n (q := 144) rfl rfl rfl ?_
            refine y_getI (q := 147) rfl rfl (by decide) atM0 rfl rfl ?_
            refine y_ne0 (q := 161) (q' := 150) rfl rfl rfl rfl (fun c29 => ?_) (fun c30 => ?_)
            · skip
              refine y_aload_n (q := 151) rfl rfl rfl ?_
              refine y_callV (I := .invokevirtual 209) (idx := 209) (KD := 1) (J := 145) (mj := mj135) (as := [.ref 0]) (r := []) (q := 154) rfl (fun _ _ _ _ _ _ => rfl) rfl (by decide) rfl rfl rfl rfl rfl (Nat.le_of_ble_eq_true rfl) (d_recv atM0 (by decide) (by decide)) rfl (m_X7_next (Nat.le_trans (by decide) hd)  g28) (fun g31 => ?_)
              refine y_goto (q := 161) rfl rfl ?_
              refine y_iload_n (q := 162) rfl rfl rfl ?_
              exact y_retI rfl (by decide) rfl rfl
            · skip
              refine y_iload_n (q := 162) rfl rfl rfl ?_
              exact y_retI rfl (by decide) rfl rfl
          · skip
            refine y_aload_n (q := 158) rfl rfl rfl ?_
            refine y_callV (I := .invokevirtual 206) (idx := 206) (KD := 1) (J := 146) (mj := mj136) (as := [.ref 0]) (r := []) (q := 161) rfl (fun _ _ _ _ _ _ => rfl) rfl (by decide) rfl rfl rfl rfl rfl (Nat.le_of_ble_eq_true rfl) (d_recv atM0 (by decide) (by decide)) rfl (m_X7_fail (Nat.le_trans (by decide) hd)  h) (fun g32 => ?_)
            refine y_iload_n (q := 162) rfl rfl rfl ?_
            exact y_retI rfl (by decide) rfl rfl
        · skip
          refine y_aload_n (q := 158) rfl rfl rfl ?_
          refine y_callV (I := .invokevirtual 206) (idx := 206) (KD := 1) (J := 146) (mj := mj136) (as := [.ref 0]) (r := []) (q := 161) rfl (fun _ _ _ _ _ _ => rfl) rfl (by decide) rfl rfl rfl rfl rfl (Nat.le_of_ble_eq_true rfl) (d_recv atM0 (by decide) (by decide)) rfl (m_X7_fail (Nat.le_trans (by decide) hd)  h) (fun g33 => ?_)
          refine y_iload_n (q := 162) rfl rfl rfl ?_
          exact y_retI rfl (by decide) rfl rfl
    · skip
      refine y_aload_n (q := 47) rfl rfl rfl ?_
      refine y_callI (I := .invokevirtual 237) (idx := 237) (KD := 1) (J := 150) (mj := mj140) (as := [.ref 0]) (r := []) (q := 50) rfl (fun _ _ _ _ _ _ => rfl) rfl (by decide) rfl rfl rfl rfl rfl (Nat.le_of_ble_eq_true rfl) (d_recv atM0 (by decide) (by decide)) rfl (m_X7_opens (Nat.le_trans (by decide) hd)  h) (fun r34 g35 => ?_)
      refine y_eq0 (q := 161) (q' := 53) rfl rfl rfl rfl (fun c36 => ?_) (fun c37 => ?_)
      · skip
        refine y_iload_n (q := 162) rfl rfl rfl ?_
        exact y_retI rfl (by decide) rfl rfl
      · skip
        refine y_aload_n (q := 54) rfl rfl rfl ?_
        refine y_callI (I := .invokevirtual 282) (idx := 282) (KD := 1) (J := 163) (mj := mj153) (as := [.ref 0]) (r := []) (q := 57) rfl (fun _ _ _ _ _ _ => rfl) rfl (by decide) rfl rfl rfl rfl rfl (Nat.le_of_ble_eq_true rfl) (d_recv atM0 (by decide) (by decide)) rfl (m_X7_either4 (Nat.le_trans (by decide) hd)  g35) (fun r38 g39 => ?_)
        refine y_istore_n (lo' := [some (.ref 0), some (.int r38)]) (q := 58) rfl (Nat.le_of_ble_eq_true rfl) rfl rfl ?_
        refine y_aload_n (q := 59) rfl rfl rfl ?_
        refine y_bipush (x := 41) (q := 61) rfl (by decide) rfl ?_
        refine y_callP (I := .invokevirtual 234) (idx := 234) (KD := 1) (J := 149) (mj := mj139) (as := [.ref 0, .int 41]) (r := []) (q := 64) rfl (fun _ _ _ _ _ _ => rfl) rfl (by decide) rfl rfl rfl rfl rfl (Nat.le_of_ble_eq_true rfl) (d_recv atM0 (by decide) (by decide)) rfl (m_X7_isSign (Nat.le_trans (by decide) hd) 41 g39) (fun r40 => ?_)
        refine y_ne0 (q := 71) (q' := 67) rfl rfl rfl rfl (fun c41 => ?_) (fun c42 => ?_)
        · skip
          refine y_aload_n (q := 68) rfl rfl rfl ?_
          refine y_callV (I := .invokevirtual 206) (idx := 206) (KD := 1) (J := 146) (mj := mj136) (as := [.ref 0]) (r := []) (q := 71) rfl (fun _ _ _ _ _ _ => rfl) rfl (by decide) rfl rfl rfl rfl rfl (Nat.le_of_ble_eq_true rfl) (d_recv atM0 (by decide) (by decide)) rfl (m_X7_fail (Nat.le_trans (by decide) hd)  g39) (fun g43 => ?_)
          refine y_aload_n (q := 72) rfl rfl rfl ?_
          refine y_dup (q := 73) rfl rfl ?_
          refine y_getI (q := 76) rfl rfl (by decide) atM0 rfl rfl ?_
          refine y_iconst (x := 1) (q := 77) rfl (by decide) rfl ?_
          refine y_isub (q := 78) rfl rfl ?_
          refine y_putI (q := 81) rfl rfl (by decide) atM0 rfl rfl rfl rfl (fun g44 => ?_)
          refine y_aload_n (q := 82) rfl rfl rfl ?_
          refine y_getI (q := 85) rfl rfl (by decide) atM0 rfl rfl ?_
          refine y_ne0 (q := 161) (q' := 88) rfl rfl rfl rfl (fun c45 => ?_) (fun c46 => ?_)
          · skip
            refine y_aload_n (q := 89) rfl rfl rfl ?_
            refine y_callV (I := .invokevirtual 209) (idx := 209) (KD := 1) (J := 145) (mj := mj135) (as := [.ref 0]) (r := []) (q := 92) rfl (fun _ _ _ _ _ _ => rfl) rfl (by decide) rfl rfl rfl rfl rfl (Nat.le_of_ble_eq_true rfl) (d_recv atM0 (by decide) (by decide)) rfl (m_X7_next (Nat.le_trans (by decide) hd)  g44) (fun g47 => ?_)
            refine y_goto (q := 161) rfl rfl ?_
            refine y_iload_n (q := 162) rfl rfl rfl ?_
            exact y_retI rfl (by decide) rfl rfl
          · skip
            refine y_iload_n (q := 162) rfl rfl rfl ?_
            exact y_retI rfl (by decide) rfl rfl
        · skip
          refine y_aload_n (q := 72) rfl rfl rfl ?_
          refine y_dup (q := 73) rfl rfl ?_
          refine y_getI (q := 76) rfl rfl (by decide) atM0 rfl rfl ?_
          refine y_iconst (x := 1) (q := 77) rfl (by decide) rfl ?_
          refine y_isub (q := 78) rfl rfl ?_
          refine y_putI (q := 81) rfl rfl (by decide) atM0 rfl rfl rfl rfl (fun g48 => ?_)
          refine y_aload_n (q := 82) rfl rfl rfl ?_
          refine y_getI (q := 85) rfl rfl (by decide) atM0 rfl rfl ?_
          refine y_ne0 (q := 161) (q' := 88) rfl rfl rfl rfl (fun c49 => ?_) (fun c50 => ?_)
          · skip
            refine y_aload_n (q := 89) rfl rfl rfl ?_
            refine y_callV (I := .invokevirtual 209) (idx := 209) (KD := 1) (J := 145) (mj := mj135) (as := [.ref 0]) (r := []) (q := 92) rfl (fun _ _ _ _ _ _ => rfl) rfl (by decide) rfl rfl rfl rfl rfl (Nat.le_of_ble_eq_true rfl) (d_recv atM0 (by decide) (by decide)) rfl (m_X7_next (Nat.le_trans (by decide) hd)  g48) (fun g51 => ?_)
            refine y_goto (q := 161) rfl rfl ?_
            refine y_iload_n (q := 162) rfl rfl rfl ?_
            exact y_retI rfl (by decide) rfl rfl
          · skip
            refine y_iload_n (q := 162) rfl rfl rfl ?_
            exact y_retI rfl (by decide) rfl rfl
  · skip
    refine y_aload_n (q := 12) rfl rfl rfl ?_
    refine y_callI (I := .invokevirtual 237) (idx := 237) (KD := 1) (J := 150) (mj := mj140) (as := [.ref 0]) (r := []) (q := 15) rfl (fun _ _ _ _ _ _ => rfl) rfl (by decide) rfl rfl rfl rfl rfl (Nat.le_of_ble_eq_true rfl) (d_recv atM0 (by decide) (by decide)) rfl (m_X7_opens (Nat.le_trans (by decide) hd)  h) (fun r52 g53 => ?_)
    refine y_eq0 (q := 161) (q' := 18) rfl rfl rfl rfl (fun c54 => ?_) (fun c55 => ?_)
    · skip
      refine y_iload_n (q := 162) rfl rfl rfl ?_
      exact y_retI rfl (by decide) rfl rfl
    · skip
      refine y_aload_n (q := 19) rfl rfl rfl ?_
      refine y_callI (I := .invokevirtual 267) (idx := 267) (KD := 1) (J := 158) (mj := mj148) (as := [.ref 0]) (r := []) (q := 22) rfl (fun _ _ _ _ _ _ => rfl) rfl (by decide) rfl rfl rfl rfl rfl (Nat.le_of_ble_eq_true rfl) (d_recv atM0 (by decide) (by decide)) rfl (m_X7_atom4 (Nat.le_trans (by decide) hd)  g53) (fun r56 g57 => ?_)
      refine y_ineg (q := 23) rfl rfl ?_
      refine y_istore_n (lo' := [some (.ref 0), some (.int (-r56))]) (q := 24) rfl (Nat.le_of_ble_eq_true rfl) rfl rfl ?_
      refine y_aload_n (q := 25) rfl rfl rfl ?_
      refine y_dup (q := 26) rfl rfl ?_
      refine y_getI (q := 29) rfl rfl (by decide) atM0 rfl rfl ?_
      refine y_iconst (x := 1) (q := 30) rfl (by decide) rfl ?_
      refine y_isub (q := 31) rfl rfl ?_
      refine y_putI (q := 34) rfl rfl (by decide) atM0 rfl rfl rfl rfl (fun g58 => ?_)
      refine y_goto (q := 161) rfl rfl ?_
      refine y_iload_n (q := 162) rfl rfl rfl ?_
      exact y_retI rfl (by decide) rfl rfl
def l_X7_term3_5  (k : Int32 → dH → Option (Int32 × dH)) : Nat → Int32 → dH → Option (Int32 × dH)
  | 0, _, _ => none
  | n + 1, v1, h => oP (f_X7_isSign 42 h) (fun r3 => if r3.toInt = 0 then (k v1 h) else (oV (f_X7_next  h) (fun g6 => oI (f_X7_atom3  g6) (fun r7 g8 => l_X7_term3_5  k n (v1 * r7) g8))))
theorem lz_X7_term3_5 {d : Nat} (hd : 17 ≤ d)  (k : Int32 → dH → Option (Int32 × dH)) (hk : ∀ (v1 : Int32) (h : dH), dY shM d mj155 dI (k v1 h) 28 [some (.ref 0), some (.int v1)] [] h) : ∀ (n : Nat) (v1 : Int32) (h : dH), dY shM d mj155 dI (l_X7_term3_5  k n v1 h) 5 [some (.ref 0), some (.int v1)] [] h
  | 0, _, _ => dY_none
  | n + 1, v1, h => by
    rw [l_X7_term3_5]
    refine y_aload_n (q := 6) rfl rfl rfl ?_
    refine y_bipush (x := 42) (q := 8) rfl (by decide) rfl ?_
    refine y_callP (I := .invokevirtual 234) (idx := 234) (KD := 1) (J := 149) (mj := mj139) (as := [.ref 0, .int 42]) (r := []) (q := 11) rfl (fun _ _ _ _ _ _ => rfl) rfl (by decide) rfl rfl rfl rfl rfl (Nat.le_of_ble_eq_true rfl) (d_recv atM0 (by decide) (by decide)) rfl (m_X7_isSign (Nat.le_trans (by decide) hd) 42 h) (fun r3 => ?_)
    refine y_eq0 (q := 28) (q' := 14) rfl rfl rfl rfl (fun c4 => ?_) (fun c5 => ?_)
    · skip
      exact hk v1  h
    · skip
      refine y_aload_n (q := 15) rfl rfl rfl ?_
      refine y_callV (I := .invokevirtual 209) (idx := 209) (KD := 1) (J := 145) (mj := mj135) (as := [.ref 0]) (r := []) (q := 18) rfl (fun _ _ _ _ _ _ => rfl) rfl (by decide) rfl rfl rfl rfl rfl (Nat.le_of_ble_eq_true rfl) (d_recv atM0 (by decide) (by decide)) rfl (m_X7_next (Nat.le_trans (by decide) hd)  h) (fun g6 => ?_)
      refine y_iload_n (q := 19) rfl rfl rfl ?_
      refine y_aload_n (q := 20) rfl rfl rfl ?_
      refine y_callI (I := .invokevirtual 285) (idx := 285) (KD := 1) (J := 164) (mj := mj154) (as := [.ref 0]) (r := [.int v1]) (q := 23) rfl (fun _ _ _ _ _ _ => rfl) rfl (by decide) rfl rfl rfl rfl rfl (Nat.le_of_ble_eq_true rfl) (d_recv atM0 (by decide) (by decide)) rfl (m_X7_atom3 (Nat.le_trans (by decide) hd)  g6) (fun r7 g8 => ?_)
      refine y_imul (q := 24) rfl rfl ?_
      refine y_istore_n (lo' := [some (.ref 0), some (.int (v1 * r7))]) (q := 25) rfl (Nat.le_of_ble_eq_true rfl) rfl rfl ?_
      refine y_goto (q := 5) rfl rfl ?_
      exact lz_X7_term3_5 hd  k hk n (v1 * r7) g8 
def f_X7_term3  (h : dH) : Option (Int32 × dH) := oI (f_X7_atom3  h) (fun r1 g2 => l_X7_term3_5   (fun v1_9 g10 => some (v1_9, g10)) fuel0 r1 g2)
theorem m_X7_term3 {d : Nat} (hd : 18 ≤ d)  (h : dH) : dX shM d 155 [.ref 0] dI (f_X7_term3  h) h := by
  obtain ⟨e, rfl⟩ : ∃ e, d = e + 1 := ⟨d - 1, by omega⟩
  have hd : 17 ≤ e := by omega
  refine dX_of (mj := mj155) (lo := [some (.ref 0), none]) rfl (Nat.le_of_ble_eq_true rfl) rfl ?_
  unfold f_X7_term3
  refine y_aload_n (q := 1) rfl rfl rfl ?_
  refine y_callI (I := .invokevirtual 285) (idx := 285) (KD := 1) (J := 164) (mj := mj154) (as := [.ref 0]) (r := []) (q := 4) rfl (fun _ _ _ _ _ _ => rfl) rfl (by decide) rfl rfl rfl rfl rfl (Nat.le_of_ble_eq_true rfl) (d_recv atM0 (by decide) (by decide)) rfl (m_X7_atom3 (Nat.le_trans (by decide) hd)  h) (fun r1 g2 => ?_)
  refine y_istore_n (lo' := [some (.ref 0), some (.int r1)]) (q := 5) rfl (Nat.le_of_ble_eq_true rfl) rfl rfl ?_
  refine lz_X7_term3_5 hd   _ (fun v1_9 g10 => ?_) fuel0 r1 g2 
  refine y_iload_n (q := 29) rfl rfl rfl ?_
  exact y_retI rfl (by decide) rfl rfl
def l_X7_added3_5  (k : Int32 → dH → Option (Int32 × dH)) : Nat → Int32 → dH → Option (Int32 × dH)
  | 0, _, _ => none
  | n + 1, v1, h => oP (f_X7_isSign 43 h) (fun r3 => if r3.toInt = 0 then (oP (f_X7_isSign 45 h) (fun r6 => if r6.toInt = 0 then (k v1 h) else (if (dlcmp (h 0 25).toInt64 43).toInt = 0 then (oV (f_X7_next  h) (fun g11 => oI (f_X7_term3  g11) (fun r12 g13 => l_X7_added3_5  k n (v1 + r12) g13))) else (oV (f_X7_next  h) (fun g14 => oI (f_X7_term3  g14) (fun r15 g16 => l_X7_added3_5  k n (v1 - r15) g16)))))) else (if (dlcmp (h 0 25).toInt64 43).toInt = 0 then (oV (f_X7_next  h) (fun g19 => oI (f_X7_term3  g19) (fun r20 g21 => l_X7_added3_5  k n (v1 + r20) g21))) else (oV (f_X7_next  h) (fun g22 => oI (f_X7_term3  g22) (fun r23 g24 => l_X7_added3_5  k n (v1 - r23) g24)))))
theorem lz_X7_added3_5 {d : Nat} (hd : 18 ≤ d)  (k : Int32 → dH → Option (Int32 × dH)) (hk : ∀ (v1 : Int32) (z2 : Option Value) (z3 : Option Value) (h : dH), dY shM d mj156 dI (k v1 h) 66 [some (.ref 0), some (.int v1), z2, z3] [] h) : ∀ (n : Nat) (v1 : Int32) (h : dH) (z2 : Option Value) (z3 : Option Value), dY shM d mj156 dI (l_X7_added3_5  k n v1 h) 5 [some (.ref 0), some (.int v1), z2, z3] [] h
  | 0, _, _, _, _ => dY_none
  | n + 1, v1, h, z2, z3 => by
    rw [l_X7_added3_5]
    refine y_aload_n (q := 6) rfl rfl rfl ?_
    refine y_bipush (x := 43) (q := 8) rfl (by decide) rfl ?_
    refine y_callP (I := .invokevirtual 234) (idx := 234) (KD := 1) (J := 149) (mj := mj139) (as := [.ref 0, .int 43]) (r := []) (q := 11) rfl (fun _ _ _ _ _ _ => rfl) rfl (by decide) rfl rfl rfl rfl rfl (Nat.le_of_ble_eq_true rfl) (d_recv atM0 (by decide) (by decide)) rfl (m_X7_isSign (Nat.le_trans (by decide) hd) 43 h) (fun r3 => ?_)
    refine y_ne0 (q := 23) (q' := 14) rfl rfl rfl rfl (fun c4 => ?_) (fun c5 => ?_)
    · skip
      refine y_aload_n (q := 15) rfl rfl rfl ?_
      refine y_bipush (x := 45) (q := 17) rfl (by decide) rfl ?_
      refine y_callP (I := .invokevirtual 234) (idx := 234) (KD := 1) (J := 149) (mj := mj139) (as := [.ref 0, .int 45]) (r := []) (q := 20) rfl (fun _ _ _ _ _ _ => rfl) rfl (by decide) rfl rfl rfl rfl rfl (Nat.le_of_ble_eq_true rfl) (d_recv atM0 (by decide) (by decide)) rfl (m_X7_isSign (Nat.le_trans (by decide) hd) 45 h) (fun r6 => ?_)
      refine y_eq0 (q := 66) (q' := 23) rfl rfl rfl rfl (fun c7 => ?_) (fun c8 => ?_)
      · skip
        exact hk v1 (z2) (z3) h
      · skip
        refine y_aload_n (q := 24) rfl rfl rfl ?_
        refine y_getL (q := 27) rfl rfl (by decide) atM0 rfl rfl ?_
        refine y_ldc2_w (u := 43) (q := 30) rfl rfl rfl ?_
        refine y_lcmp (q := 31) rfl rfl ?_
        refine y_ne0 (q := 38) (q' := 34) rfl rfl rfl rfl (fun c9 => ?_) (fun c10 => ?_)
        · skip
          refine y_iconst (x := 1) (q := 35) rfl (by decide) rfl ?_
          refine y_goto (q := 39) rfl rfl ?_
          refine y_istore_n (lo' := [some (.ref 0), some (.int v1), some (.int 1), z3]) (q := 40) rfl (Nat.le_of_ble_eq_true rfl) rfl rfl ?_
          refine y_aload_n (q := 41) rfl rfl rfl ?_
          refine y_callV (I := .invokevirtual 209) (idx := 209) (KD := 1) (J := 145) (mj := mj135) (as := [.ref 0]) (r := []) (q := 44) rfl (fun _ _ _ _ _ _ => rfl) rfl (by decide) rfl rfl rfl rfl rfl (Nat.le_of_ble_eq_true rfl) (d_recv atM0 (by decide) (by decide)) rfl (m_X7_next (Nat.le_trans (by decide) hd)  h) (fun g11 => ?_)
          refine y_aload_n (q := 45) rfl rfl rfl ?_
          refine y_callI (I := .invokevirtual 288) (idx := 288) (KD := 1) (J := 165) (mj := mj155) (as := [.ref 0]) (r := []) (q := 48) rfl (fun _ _ _ _ _ _ => rfl) rfl (by decide) rfl rfl rfl rfl rfl (Nat.le_of_ble_eq_true rfl) (d_recv atM0 (by decide) (by decide)) rfl (m_X7_term3 (Nat.le_trans (by decide) hd)  g11) (fun r12 g13 => ?_)
          refine y_istore_n (lo' := [some (.ref 0), some (.int v1), some (.int 1), some (.int r12)]) (q := 49) rfl (Nat.le_of_ble_eq_true rfl) rfl rfl ?_
          refine y_iload_n (q := 50) rfl rfl rfl ?_
          refine y_ifF (q := 53) rfl (by decide) rfl rfl ?_
          refine y_iload_n (q := 54) rfl rfl rfl ?_
          refine y_iload_n (q := 55) rfl rfl rfl ?_
          refine y_iadd (q := 56) rfl rfl ?_
          refine y_goto (q := 62) rfl rfl ?_
          refine y_istore_n (lo' := [some (.ref 0), some (.int (v1 + r12)), some (.int 1), some (.int r12)]) (q := 63) rfl (Nat.le_of_ble_eq_true rfl) rfl rfl ?_
          refine y_goto (q := 5) rfl rfl ?_
          exact lz_X7_added3_5 hd  k hk n (v1 + r12) g13 (some (.int 1)) (some (.int r12))
        · skip
          refine y_iconst (x := 0) (q := 39) rfl (by decide) rfl ?_
          refine y_istore_n (lo' := [some (.ref 0), some (.int v1), some (.int 0), z3]) (q := 40) rfl (Nat.le_of_ble_eq_true rfl) rfl rfl ?_
          refine y_aload_n (q := 41) rfl rfl rfl ?_
          refine y_callV (I := .invokevirtual 209) (idx := 209) (KD := 1) (J := 145) (mj := mj135) (as := [.ref 0]) (r := []) (q := 44) rfl (fun _ _ _ _ _ _ => rfl) rfl (by decide) rfl rfl rfl rfl rfl (Nat.le_of_ble_eq_true rfl) (d_recv atM0 (by decide) (by decide)) rfl (m_X7_next (Nat.le_trans (by decide) hd)  h) (fun g14 => ?_)
          refine y_aload_n (q := 45) rfl rfl rfl ?_
          refine y_callI (I := .invokevirtual 288) (idx := 288) (KD := 1) (J := 165) (mj := mj155) (as := [.ref 0]) (r := []) (q := 48) rfl (fun _ _ _ _ _ _ => rfl) rfl (by decide) rfl rfl rfl rfl rfl (Nat.le_of_ble_eq_true rfl) (d_recv atM0 (by decide) (by decide)) rfl (m_X7_term3 (Nat.le_trans (by decide) hd)  g14) (fun r15 g16 => ?_)
          refine y_istore_n (lo' := [some (.ref 0), some (.int v1), some (.int 0), some (.int r15)]) (q := 49) rfl (Nat.le_of_ble_eq_true rfl) rfl rfl ?_
          refine y_iload_n (q := 50) rfl rfl rfl ?_
          refine y_ifT (q := 59) rfl (by decide) rfl ?_
          refine y_iload_n (q := 60) rfl rfl rfl ?_
          refine y_iload_n (q := 61) rfl rfl rfl ?_
          refine y_isub (q := 62) rfl rfl ?_
          refine y_istore_n (lo' := [some (.ref 0), some (.int (v1 - r15)), some (.int 0), some (.int r15)]) (q := 63) rfl (Nat.le_of_ble_eq_true rfl) rfl rfl ?_
          refine y_goto (q := 5) rfl rfl ?_
          exact lz_X7_added3_5 hd  k hk n (v1 - r15) g16 (some (.int 0)) (some (.int r15))
    · skip
      refine y_aload_n (q := 24) rfl rfl rfl ?_
      refine y_getL (q := 27) rfl rfl (by decide) atM0 rfl rfl ?_
      refine y_ldc2_w (u := 43) (q := 30) rfl rfl rfl ?_
      refine y_lcmp (q := 31) rfl rfl ?_
      refine y_ne0 (q := 38) (q' := 34) rfl rfl rfl rfl (fun c17 => ?_) (fun c18 => ?_)
      · skip
        refine y_iconst (x := 1) (q := 35) rfl (by decide) rfl ?_
        refine y_goto (q := 39) rfl rfl ?_
        refine y_istore_n (lo' := [some (.ref 0), some (.int v1), some (.int 1), z3]) (q := 40) rfl (Nat.le_of_ble_eq_true rfl) rfl rfl ?_
        refine y_aload_n (q := 41) rfl rfl rfl ?_
        refine y_callV (I := .invokevirtual 209) (idx := 209) (KD := 1) (J := 145) (mj := mj135) (as := [.ref 0]) (r := []) (q := 44) rfl (fun _ _ _ _ _ _ => rfl) rfl (by decide) rfl rfl rfl rfl rfl (Nat.le_of_ble_eq_true rfl) (d_recv atM0 (by decide) (by decide)) rfl (m_X7_next (Nat.le_trans (by decide) hd)  h) (fun g19 => ?_)
        refine y_aload_n (q := 45) rfl rfl rfl ?_
        refine y_callI (I := .invokevirtual 288) (idx := 288) (KD := 1) (J := 165) (mj := mj155) (as := [.ref 0]) (r := []) (q := 48) rfl (fun _ _ _ _ _ _ => rfl) rfl (by decide) rfl rfl rfl rfl rfl (Nat.le_of_ble_eq_true rfl) (d_recv atM0 (by decide) (by decide)) rfl (m_X7_term3 (Nat.le_trans (by decide) hd)  g19) (fun r20 g21 => ?_)
        refine y_istore_n (lo' := [some (.ref 0), some (.int v1), some (.int 1), some (.int r20)]) (q := 49) rfl (Nat.le_of_ble_eq_true rfl) rfl rfl ?_
        refine y_iload_n (q := 50) rfl rfl rfl ?_
        refine y_ifF (q := 53) rfl (by decide) rfl rfl ?_
        refine y_iload_n (q := 54) rfl rfl rfl ?_
        refine y_iload_n (q := 55) rfl rfl rfl ?_
        refine y_iadd (q := 56) rfl rfl ?_
        refine y_goto (q := 62) rfl rfl ?_
        refine y_istore_n (lo' := [some (.ref 0), some (.int (v1 + r20)), some (.int 1), some (.int r20)]) (q := 63) rfl (Nat.le_of_ble_eq_true rfl) rfl rfl ?_
        refine y_goto (q := 5) rfl rfl ?_
        exact lz_X7_added3_5 hd  k hk n (v1 + r20) g21 (some (.int 1)) (some (.int r20))
      · skip
        refine y_iconst (x := 0) (q := 39) rfl (by decide) rfl ?_
        refine y_istore_n (lo' := [some (.ref 0), some (.int v1), some (.int 0), z3]) (q := 40) rfl (Nat.le_of_ble_eq_true rfl) rfl rfl ?_
        refine y_aload_n (q := 41) rfl rfl rfl ?_
        refine y_callV (I := .invokevirtual 209) (idx := 209) (KD := 1) (J := 145) (mj := mj135) (as := [.ref 0]) (r := []) (q := 44) rfl (fun _ _ _ _ _ _ => rfl) rfl (by decide) rfl rfl rfl rfl rfl (Nat.le_of_ble_eq_true rfl) (d_recv atM0 (by decide) (by decide)) rfl (m_X7_next (Nat.le_trans (by decide) hd)  h) (fun g22 => ?_)
        refine y_aload_n (q := 45) rfl rfl rfl ?_
        refine y_callI (I := .invokevirtual 288) (idx := 288) (KD := 1) (J := 165) (mj := mj155) (as := [.ref 0]) (r := []) (q := 48) rfl (fun _ _ _ _ _ _ => rfl) rfl (by decide) rfl rfl rfl rfl rfl (Nat.le_of_ble_eq_true rfl) (d_recv atM0 (by decide) (by decide)) rfl (m_X7_term3 (Nat.le_trans (by decide) hd)  g22) (fun r23 g24 => ?_)
        refine y_istore_n (lo' := [some (.ref 0), some (.int v1), some (.int 0), some (.int r23)]) (q := 49) rfl (Nat.le_of_ble_eq_true rfl) rfl rfl ?_
        refine y_iload_n (q := 50) rfl rfl rfl ?_
        refine y_ifT (q := 59) rfl (by decide) rfl ?_
        refine y_iload_n (q := 60) rfl rfl rfl ?_
        refine y_iload_n (q := 61) rfl rfl rfl ?_
        refine y_isub (q := 62) rfl rfl ?_
        refine y_istore_n (lo' := [some (.ref 0), some (.int (v1 - r23)), some (.int 0), some (.int r23)]) (q := 63) rfl (Nat.le_of_ble_eq_true rfl) rfl rfl ?_
        refine y_goto (q := 5) rfl rfl ?_
        exact lz_X7_added3_5 hd  k hk n (v1 - r23) g24 (some (.int 0)) (some (.int r23))
def f_X7_added3  (h : dH) : Option (Int32 × dH) := oI (f_X7_term3  h) (fun r1 g2 => l_X7_added3_5   (fun v1_25 g28 => some (v1_25, g28)) fuel0 r1 g2)
theorem m_X7_added3 {d : Nat} (hd : 19 ≤ d)  (h : dH) : dX shM d 156 [.ref 0] dI (f_X7_added3  h) h := by
  obtain ⟨e, rfl⟩ : ∃ e, d = e + 1 := ⟨d - 1, by omega⟩
  have hd : 18 ≤ e := by omega
  refine dX_of (mj := mj156) (lo := [some (.ref 0), none, none, none]) rfl (Nat.le_of_ble_eq_true rfl) rfl ?_
  unfold f_X7_added3
  refine y_aload_n (q := 1) rfl rfl rfl ?_
  refine y_callI (I := .invokevirtual 288) (idx := 288) (KD := 1) (J := 165) (mj := mj155) (as := [.ref 0]) (r := []) (q := 4) rfl (fun _ _ _ _ _ _ => rfl) rfl (by decide) rfl rfl rfl rfl rfl (Nat.le_of_ble_eq_true rfl) (d_recv atM0 (by decide) (by decide)) rfl (m_X7_term3 (Nat.le_trans (by decide) hd)  h) (fun r1 g2 => ?_)
  refine y_istore_n (lo' := [some (.ref 0), some (.int r1), none, none]) (q := 5) rfl (Nat.le_of_ble_eq_true rfl) rfl rfl ?_
  refine lz_X7_added3_5 hd   _ (fun v1_25 z26 z27 g28 => ?_) fuel0 r1 g2 (none) (none)
  refine y_iload_n (q := 67) rfl rfl rfl ?_
  exact y_retI rfl (by decide) rfl rfl
def f_X7_not3  (h : dH) : Option (Int32 × dH) := oP (f_X7_isWord 110 111 116 0 0 0 0 0 h) (fun r1 => if r1.toInt = 0 then (oI (f_X7_added3  h) (fun r4 g5 => oP (f_X7_isSign 60 g5) (fun r6 => if r6.toInt = 0 then (oP (f_X7_isSign 61 g5) (fun r9 => if r9.toInt = 0 then (some (r4, g5)) else (if (dlcmp (g5 0 25).toInt64 60).toInt = 0 then (oV (f_X7_next  g5) (fun g14 => oI (f_X7_added3  g14) (fun r15 g16 => if r4.toInt < r15.toInt then (some (1, g16)) else (some (0, g16))))) else (oV (f_X7_next  g5) (fun g19 => oI (f_X7_added3  g19) (fun r20 g21 => if r4.toInt = r20.toInt then (some (1, g21)) else (some (0, g21)))))))) else (if (dlcmp (g5 0 25).toInt64 60).toInt = 0 then (oV (f_X7_next  g5) (fun g26 => oI (f_X7_added3  g26) (fun r27 g28 => if r4.toInt < r27.toInt then (some (1, g28)) else (some (0, g28))))) else (oV (f_X7_next  g5) (fun g31 => oI (f_X7_added3  g31) (fun r32 g33 => if r4.toInt = r32.toInt then (some (1, g33)) else (some (0, g33))))))))) else (oI (f_X7_opens  h) (fun r36 g37 => if r36.toInt = 0 then (some (0, g37)) else (oI (f_X7_not4  g37) (fun r40 g41 => oH (dU g41 0 26 ((g41 0 26) - 1)) (fun g42 => if r40.toInt = 0 then (some (1, g42)) else (some (0, g42))))))))
theorem m_X7_not3 {d : Nat} (hd : 20 ≤ d)  (h : dH) : dX shM d 157 [.ref 0] dI (f_X7_not3  h) h := by
  obtain ⟨e, rfl⟩ : ∃ e, d = e + 1 := ⟨d - 1, by omega⟩
  have hd : 19 ≤ e := by omega
  refine dX_of (mj := mj157) (lo := [some (.ref 0), none, none, none]) rfl (Nat.le_of_ble_eq_true rfl) rfl ?_
  unfold f_X7_not3
  refine y_aload_n (q := 1) rfl rfl rfl ?_
  refine y_bipush (x := 110) (q := 3) rfl (by decide) rfl ?_
  refine y_bipush (x := 111) (q := 5) rfl (by decide) rfl ?_
  refine y_bipush (x := 116) (q := 7) rfl (by decide) rfl ?_
  refine y_iconst (x := 0) (q := 8) rfl (by decide) rfl ?_
  refine y_iconst (x := 0) (q := 9) rfl (by decide) rfl ?_
  refine y_iconst (x := 0) (q := 10) rfl (by decide) rfl ?_
  refine y_iconst (x := 0) (q := 11) rfl (by decide) rfl ?_
  refine y_iconst (x := 0) (q := 12) rfl (by decide) rfl ?_
  refine y_callP (I := .invokevirtual 212) (idx := 212) (KD := 1) (J := 148) (mj := mj138) (as := [.ref 0, .int 110, .int 111, .int 116, .int 0, .int 0, .int 0, .int 0, .int 0]) (r := []) (q := 15) rfl (fun _ _ _ _ _ _ => rfl) rfl (by decide) rfl rfl rfl rfl rfl (Nat.le_of_ble_eq_true rfl) (d_recv atM0 (by decide) (by decide)) rfl (m_X7_isWord (Nat.le_trans (by decide) hd) 110 111 116 0 0 0 0 0 h) (fun r1 => ?_)
  refine y_eq0 (q := 52) (q' := 18) rfl rfl rfl rfl (fun c2 => ?_) (fun c3 => ?_)
  · skip
    refine y_aload_n (q := 53) rfl rfl rfl ?_
    refine y_callI (I := .invokevirtual 291) (idx := 291) (KD := 1) (J := 166) (mj := mj156) (as := [.ref 0]) (r := []) (q := 56) rfl (fun _ _ _ _ _ _ => rfl) rfl (by decide) rfl rfl rfl rfl rfl (Nat.le_of_ble_eq_true rfl) (d_recv atM0 (by decide) (by decide)) rfl (m_X7_added3 (Nat.le_trans (by decide) hd)  h) (fun r4 g5 => ?_)
    refine y_istore_n (lo' := [some (.ref 0), some (.int r4), none, none]) (q := 57) rfl (Nat.le_of_ble_eq_true rfl) rfl rfl ?_
    refine y_aload_n (q := 58) rfl rfl rfl ?_
    refine y_bipush (x := 60) (q := 60) rfl (by decide) rfl ?_
    refine y_callP (I := .invokevirtual 234) (idx := 234) (KD := 1) (J := 149) (mj := mj139) (as := [.ref 0, .int 60]) (r := []) (q := 63) rfl (fun _ _ _ _ _ _ => rfl) rfl (by decide) rfl rfl rfl rfl rfl (Nat.le_of_ble_eq_true rfl) (d_recv atM0 (by decide) (by decide)) rfl (m_X7_isSign (Nat.le_trans (by decide) hd) 60 g5) (fun r6 => ?_)
    refine y_ne0 (q := 77) (q' := 66) rfl rfl rfl rfl (fun c7 => ?_) (fun c8 => ?_)
    · skip
      refine y_aload_n (q := 67) rfl rfl rfl ?_
      refine y_bipush (x := 61) (q := 69) rfl (by decide) rfl ?_
      refine y_callP (I := .invokevirtual 234) (idx := 234) (KD := 1) (J := 149) (mj := mj139) (as := [.ref 0, .int 61]) (r := []) (q := 72) rfl (fun _ _ _ _ _ _ => rfl) rfl (by decide) rfl rfl rfl rfl rfl (Nat.le_of_ble_eq_true rfl) (d_recv atM0 (by decide) (by decide)) rfl (m_X7_isSign (Nat.le_trans (by decide) hd) 61 g5) (fun r9 => ?_)
      refine y_ne0 (q := 77) (q' := 75) rfl rfl rfl rfl (fun c10 => ?_) (fun c11 => ?_)
      · skip
        refine y_iload_n (q := 76) rfl rfl rfl ?_
        exact y_retI rfl (by decide) rfl rfl
      · skip
        refine y_aload_n (q := 78) rfl rfl rfl ?_
        refine y_getL (q := 81) rfl rfl (by decide) atM0 rfl rfl ?_
        refine y_ldc2_w (u := 60) (q := 84) rfl rfl rfl ?_
        refine y_lcmp (q := 85) rfl rfl ?_
        refine y_ne0 (q := 92) (q' := 88) rfl rfl rfl rfl (fun c12 => ?_) (fun c13 => ?_)
        · skip
          refine y_iconst (x := 1) (q := 89) rfl (by decide) rfl ?_
          refine y_goto (q := 93) rfl rfl ?_
          refine y_istore_n (lo' := [some (.ref 0), some (.int r4), some (.int 1), none]) (q := 94) rfl (Nat.le_of_ble_eq_true rfl) rfl rfl ?_
          refine y_aload_n (q := 95) rfl rfl rfl ?_
          refine y_callV (I := .invokevirtual 209) (idx := 209) (KD := 1) (J := 145) (mj := mj135) (as := [.ref 0]) (r := []) (q := 98) rfl (fun _ _ _ _ _ _ => rfl) rfl (by decide) rfl rfl rfl rfl rfl (Nat.le_of_ble_eq_true rfl) (d_recv atM0 (by decide) (by decide)) rfl (m_X7_next (Nat.le_trans (by decide) hd)  g5) (fun g14 => ?_)
          refine y_aload_n (q := 99) rfl rfl rfl ?_
          refine y_callI (I := .invokevirtual 291) (idx := 291) (KD := 1) (J := 166) (mj := mj156) (as := [.ref 0]) (r := []) (q := 102) rfl (fun _ _ _ _ _ _ => rfl) rfl (by decide) rfl rfl rfl rfl rfl (Nat.le_of_ble_eq_true rfl) (d_recv atM0 (by decide) (by decide)) rfl (m_X7_added3 (Nat.le_trans (by decide) hd)  g14) (fun r15 g16 => ?_)
          refine y_istore_n (lo' := [some (.ref 0), some (.int r4), some (.int 1), some (.int r15)]) (q := 103) rfl (Nat.le_of_ble_eq_true rfl) rfl rfl ?_
          refine y_iload_n (q := 104) rfl rfl rfl ?_
          refine y_ifF (q := 107) rfl (by decide) rfl rfl ?_
          refine y_iload_n (q := 108) rfl rfl rfl ?_
          refine y_iload_n (q := 109) rfl rfl rfl ?_
          refine y_ge (q := 124) (q' := 112) rfl rfl rfl rfl rfl (fun c17 => ?_) (fun c18 => ?_)
          · skip
            refine y_goto (q := 120) rfl rfl ?_
            refine y_iconst (x := 1) (q := 121) rfl (by decide) rfl ?_
            refine y_goto (q := 125) rfl rfl ?_
            exact y_retI rfl (by decide) rfl rfl
          · skip
            refine y_iconst (x := 0) (q := 125) rfl (by decide) rfl ?_
            exact y_retI rfl (by decide) rfl rfl
        · skip
          refine y_iconst (x := 0) (q := 93) rfl (by decide) rfl ?_
          refine y_istore_n (lo' := [some (.ref 0), some (.int r4), some (.int 0), none]) (q := 94) rfl (Nat.le_of_ble_eq_true rfl) rfl rfl ?_
          refine y_aload_n (q := 95) rfl rfl rfl ?_
          refine y_callV (I := .invokevirtual 209) (idx := 209) (KD := 1) (J := 145) (mj := mj135) (as := [.ref 0]) (r := []) (q := 98) rfl (fun _ _ _ _ _ _ => rfl) rfl (by decide) rfl rfl rfl rfl rfl (Nat.le_of_ble_eq_true rfl) (d_recv atM0 (by decide) (by decide)) rfl (m_X7_next (Nat.le_trans (by decide) hd)  g5) (fun g19 => ?_)
          refine y_aload_n (q := 99) rfl rfl rfl ?_
          refine y_callI (I := .invokevirtual 291) (idx := 291) (KD := 1) (J := 166) (mj := mj156) (as := [.ref 0]) (r := []) (q := 102) rfl (fun _ _ _ _ _ _ => rfl) rfl (by decide) rfl rfl rfl rfl rfl (Nat.le_of_ble_eq_true rfl) (d_recv atM0 (by decide) (by decide)) rfl (m_X7_added3 (Nat.le_trans (by decide) hd)  g19) (fun r20 g21 => ?_)
          refine y_istore_n (lo' := [some (.ref 0), some (.int r4), some (.int 0), some (.int r20)]) (q := 103) rfl (Nat.le_of_ble_eq_true rfl) rfl rfl ?_
          refine y_iload_n (q := 104) rfl rfl rfl ?_
          refine y_ifT (q := 115) rfl (by decide) rfl ?_
          refine y_iload_n (q := 116) rfl rfl rfl ?_
          refine y_iload_n (q := 117) rfl rfl rfl ?_
          refine y_ne (q := 124) (q' := 120) rfl rfl rfl rfl rfl (fun c22 => ?_) (fun c23 => ?_)
          · skip
            refine y_iconst (x := 1) (q := 121) rfl (by decide) rfl ?_
            refine y_goto (q := 125) rfl rfl ?_
            exact y_retI rfl (by decide) rfl rfl
          · skip
            refine y_iconst (x := 0) (q := 125) rfl (by decide) rfl ?_
            exact y_retI rfl (by decide) rfl rfl
    · skip
      refine y_aload_n (q := 78) rfl rfl rfl ?_
      refine y_getL (q := 81) rfl rfl (by decide) atM0 rfl rfl ?_
      refine y_ldc2_w (u := 60) (q := 84) rfl rfl rfl ?_
      refine y_lcmp (q := 85) rfl rfl ?_
      refine y_ne0 (q := 92) (q' := 88) rfl rfl rfl rfl (fun c24 => ?_) (fun c25 => ?_)
      · skip
        refine y_iconst (x := 1) (q := 89) rfl (by decide) rfl ?_
        refine y_goto (q := 93) rfl rfl ?_
        refine y_istore_n (lo' := [some (.ref 0), some (.int r4), some (.int 1), none]) (q := 94) rfl (Nat.le_of_ble_eq_true rfl) rfl rfl ?_
        refine y_aload_n (q := 95) rfl rfl rfl ?_
        refine y_callV (I := .invokevirtual 209) (idx := 209) (KD := 1) (J := 145) (mj := mj135) (as := [.ref 0]) (r := []) (q := 98) rfl (fun _ _ _ _ _ _ => rfl) rfl (by decide) rfl rfl rfl rfl rfl (Nat.le_of_ble_eq_true rfl) (d_recv atM0 (by decide) (by decide)) rfl (m_X7_next (Nat.le_trans (by decide) hd)  g5) (fun g26 => ?_)
        refine y_aload_n (q := 99) rfl rfl rfl ?_
        refine y_callI (I := .invokevirtual 291) (idx := 291) (KD := 1) (J := 166) (mj := mj156) (as := [.ref 0]) (r := []) (q := 102) rfl (fun _ _ _ _ _ _ => rfl) rfl (by decide) rfl rfl rfl rfl rfl (Nat.le_of_ble_eq_true rfl) (d_recv atM0 (by decide) (by decide)) rfl (m_X7_added3 (Nat.le_trans (by decide) hd)  g26) (fun r27 g28 => ?_)
        refine y_istore_n (lo' := [some (.ref 0), some (.int r4), some (.int 1), some (.int r27)]) (q := 103) rfl (Nat.le_of_ble_eq_true rfl) rfl rfl ?_
        refine y_iload_n (q := 104) rfl rfl rfl ?_
        refine y_ifF (q := 107) rfl (by decide) rfl rfl ?_
        refine y_iload_n (q := 108) rfl rfl rfl ?_
        refine y_iload_n (q := 109) rfl rfl rfl ?_
        refine y_ge (q := 124) (q' := 112) rfl rfl rfl rfl rfl (fun c29 => ?_) (fun c30 => ?_)
        · skip
          refine y_goto (q := 120) rfl rfl ?_
          refine y_iconst (x := 1) (q := 121) rfl (by decide) rfl ?_
          refine y_goto (q := 125) rfl rfl ?_
          exact y_retI rfl (by decide) rfl rfl
        · skip
          refine y_iconst (x := 0) (q := 125) rfl (by decide) rfl ?_
          exact y_retI rfl (by decide) rfl rfl
      · skip
        refine y_iconst (x := 0) (q := 93) rfl (by decide) rfl ?_
        refine y_istore_n (lo' := [some (.ref 0), some (.int r4), some (.int 0), none]) (q := 94) rfl (Nat.le_of_ble_eq_true rfl) rfl rfl ?_
        refine y_aload_n (q := 95) rfl rfl rfl ?_
        refine y_callV (I := .invokevirtual 209) (idx := 209) (KD := 1) (J := 145) (mj := mj135) (as := [.ref 0]) (r := []) (q := 98) rfl (fun _ _ _ _ _ _ => rfl) rfl (by decide) rfl rfl rfl rfl rfl (Nat.le_of_ble_eq_true rfl) (d_recv atM0 (by decide) (by decide)) rfl (m_X7_next (Nat.le_trans (by decide) hd)  g5) (fun g31 => ?_)
        refine y_aload_n (q := 99) rfl rfl rfl ?_
        refine y_callI (I := .invokevirtual 291) (idx := 291) (KD := 1) (J := 166) (mj := mj156) (as := [.ref 0]) (r := []) (q := 102) rfl (fun _ _ _ _ _ _ => rfl) rfl (by decide) rfl rfl rfl rfl rfl (Nat.le_of_ble_eq_true rfl) (d_recv atM0 (by decide) (by decide)) rfl (m_X7_added3 (Nat.le_trans (by decide) hd)  g31) (fun r32 g33 => ?_)
        refine y_istore_n (lo' := [some (.ref 0), some (.int r4), some (.int 0), some (.int r32)]) (q := 103) rfl (Nat.le_of_ble_eq_true rfl) rfl rfl ?_
        refine y_iload_n (q := 104) rfl rfl rfl ?_
        refine y_ifT (q := 115) rfl (by decide) rfl ?_
        refine y_iload_n (q := 116) rfl rfl rfl ?_
        refine y_iload_n (q := 117) rfl rfl rfl ?_
        refine y_ne (q := 124) (q' := 120) rfl rfl rfl rfl rfl (fun c34 => ?_) (fun c35 => ?_)
        · skip
          refine y_iconst (x := 1) (q := 121) rfl (by decide) rfl ?_
          refine y_goto (q := 125) rfl rfl ?_
          exact y_retI rfl (by decide) rfl rfl
        · skip
          refine y_iconst (x := 0) (q := 125) rfl (by decide) rfl ?_
          exact y_retI rfl (by decide) rfl rfl
  · skip
    refine y_aload_n (q := 19) rfl rfl rfl ?_
    refine y_callI (I := .invokevirtual 237) (idx := 237) (KD := 1) (J := 150) (mj := mj140) (as := [.ref 0]) (r := []) (q := 22) rfl (fun _ _ _ _ _ _ => rfl) rfl (by decide) rfl rfl rfl rfl rfl (Nat.le_of_ble_eq_true rfl) (d_recv atM0 (by decide) (by decide)) rfl (m_X7_opens (Nat.le_trans (by decide) hd)  h) (fun r36 g37 => ?_)
    refine y_ne0 (q := 27) (q' := 25) rfl rfl rfl rfl (fun c38 => ?_) (fun c39 => ?_)
    · skip
      refine y_iconst (x := 0) (q := 26) rfl (by decide) rfl ?_
      exact y_retI rfl (by decide) rfl rfl
    · skip
      refine y_aload_n (q := 28) rfl rfl rfl ?_
      refine y_callI (I := .invokevirtual 276) (idx := 276) (KD := 1) (J := 161) (mj := mj151) (as := [.ref 0]) (r := []) (q := 31) rfl (fun _ _ _ _ _ _ => rfl) rfl (by decide) rfl rfl rfl rfl rfl (Nat.le_of_ble_eq_true rfl) (d_recv atM0 (by decide) (by decide)) rfl (m_X7_not4 (Nat.le_trans (by decide) hd)  g37) (fun r40 g41 => ?_)
      refine y_istore_n (lo' := [some (.ref 0), some (.int r40), none, none]) (q := 32) rfl (Nat.le_of_ble_eq_true rfl) rfl rfl ?_
      refine y_aload_n (q := 33) rfl rfl rfl ?_
      refine y_dup (q := 34) rfl rfl ?_
      refine y_getI (q := 37) rfl rfl (by decide) atM0 rfl rfl ?_
      refine y_iconst (x := 1) (q := 38) rfl (by decide) rfl ?_
      refine y_isub (q := 39) rfl rfl ?_
      refine y_putI (q := 42) rfl rfl (by decide) atM0 rfl rfl rfl rfl (fun g42 => ?_)
      refine y_iload_n (q := 43) rfl rfl rfl ?_
      refine y_ne0 (q := 50) (q' := 46) rfl rfl rfl rfl (fun c43 => ?_) (fun c44 => ?_)
      · skip
        refine y_iconst (x := 1) (q := 47) rfl (by decide) rfl ?_
        refine y_goto (q := 51) rfl rfl ?_
        exact y_retI rfl (by decide) rfl rfl
      · skip
        refine y_iconst (x := 0) (q := 51) rfl (by decide) rfl ?_
        exact y_retI rfl (by decide) rfl rfl
def l_X7_both3_5  (k : Int32 → dH → Option (Int32 × dH)) : Nat → Int32 → dH → Option (Int32 × dH)
  | 0, _, _ => none
  | n + 1, v1, h => oP (f_X7_isWord 97 110 100 0 0 0 0 0 h) (fun r3 => if r3.toInt = 0 then (k v1 h) else (oV (f_X7_next  h) (fun g6 => oI (f_X7_not3  g6) (fun r7 g8 => if v1.toInt = 0 then (l_X7_both3_5  k n 0 g8) else (if r7.toInt = 0 then (l_X7_both3_5  k n 0 g8) else (l_X7_both3_5  k n 1 g8))))))
theorem lz_X7_both3_5 {d : Nat} (hd : 20 ≤ d)  (k : Int32 → dH → Option (Int32 × dH)) (hk : ∀ (v1 : Int32) (z2 : Option Value) (h : dH), dY shM d mj158 dI (k v1 h) 49 [some (.ref 0), some (.int v1), z2] [] h) : ∀ (n : Nat) (v1 : Int32) (h : dH) (z2 : Option Value), dY shM d mj158 dI (l_X7_both3_5  k n v1 h) 5 [some (.ref 0), some (.int v1), z2] [] h
  | 0, _, _, _ => dY_none
  | n + 1, v1, h, z2 => by
    rw [l_X7_both3_5]
    refine y_aload_n (q := 6) rfl rfl rfl ?_
    refine y_bipush (x := 97) (q := 8) rfl (by decide) rfl ?_
    refine y_bipush (x := 110) (q := 10) rfl (by decide) rfl ?_
    refine y_bipush (x := 100) (q := 12) rfl (by decide) rfl ?_
    refine y_iconst (x := 0) (q := 13) rfl (by decide) rfl ?_
    refine y_iconst (x := 0) (q := 14) rfl (by decide) rfl ?_
    refine y_iconst (x := 0) (q := 15) rfl (by decide) rfl ?_
    refine y_iconst (x := 0) (q := 16) rfl (by decide) rfl ?_
    refine y_iconst (x := 0) (q := 17) rfl (by decide) rfl ?_
    refine y_callP (I := .invokevirtual 212) (idx := 212) (KD := 1) (J := 148) (mj := mj138) (as := [.ref 0, .int 97, .int 110, .int 100, .int 0, .int 0, .int 0, .int 0, .int 0]) (r := []) (q := 20) rfl (fun _ _ _ _ _ _ => rfl) rfl (by decide) rfl rfl rfl rfl rfl (Nat.le_of_ble_eq_true rfl) (d_recv atM0 (by decide) (by decide)) rfl (m_X7_isWord (Nat.le_trans (by decide) hd) 97 110 100 0 0 0 0 0 h) (fun r3 => ?_)
    refine y_eq0 (q := 49) (q' := 23) rfl rfl rfl rfl (fun c4 => ?_) (fun c5 => ?_)
    · skip
      exact hk v1 (z2) h
    · skip
      refine y_aload_n (q := 24) rfl rfl rfl ?_
      refine y_callV (I := .invokevirtual 209) (idx := 209) (KD := 1) (J := 145) (mj := mj135) (as := [.ref 0]) (r := []) (q := 27) rfl (fun _ _ _ _ _ _ => rfl) rfl (by decide) rfl rfl rfl rfl rfl (Nat.le_of_ble_eq_true rfl) (d_recv atM0 (by decide) (by decide)) rfl (m_X7_next (Nat.le_trans (by decide) hd)  h) (fun g6 => ?_)
      refine y_aload_n (q := 28) rfl rfl rfl ?_
      refine y_callI (I := .invokevirtual 294) (idx := 294) (KD := 1) (J := 167) (mj := mj157) (as := [.ref 0]) (r := []) (q := 31) rfl (fun _ _ _ _ _ _ => rfl) rfl (by decide) rfl rfl rfl rfl rfl (Nat.le_of_ble_eq_true rfl) (d_recv atM0 (by decide) (by decide)) rfl (m_X7_not3 (Nat.le_trans (by decide) hd)  g6) (fun r7 g8 => ?_)
      refine y_istore_n (lo' := [some (.ref 0), some (.int v1), some (.int r7)]) (q := 32) rfl (Nat.le_of_ble_eq_true rfl) rfl rfl ?_
      refine y_iload_n (q := 33) rfl rfl rfl ?_
      refine y_eq0 (q := 44) (q' := 36) rfl rfl rfl rfl (fun c9 => ?_) (fun c10 => ?_)
      · skip
        refine y_iconst (x := 0) (q := 45) rfl (by decide) rfl ?_
        refine y_istore_n (lo' := [some (.ref 0), some (.int 0), some (.int r7)]) (q := 46) rfl (Nat.le_of_ble_eq_true rfl) rfl rfl ?_
        refine y_goto (q := 5) rfl rfl ?_
        exact lz_X7_both3_5 hd  k hk n 0 g8 (some (.int r7))
      · skip
        refine y_iload_n (q := 37) rfl rfl rfl ?_
        refine y_eq0 (q := 44) (q' := 40) rfl rfl rfl rfl (fun c11 => ?_) (fun c12 => ?_)
        · skip
          refine y_iconst (x := 0) (q := 45) rfl (by decide) rfl ?_
          refine y_istore_n (lo' := [some (.ref 0), some (.int 0), some (.int r7)]) (q := 46) rfl (Nat.le_of_ble_eq_true rfl) rfl rfl ?_
          refine y_goto (q := 5) rfl rfl ?_
          exact lz_X7_both3_5 hd  k hk n 0 g8 (some (.int r7))
        · skip
          refine y_iconst (x := 1) (q := 41) rfl (by decide) rfl ?_
          refine y_goto (q := 45) rfl rfl ?_
          refine y_istore_n (lo' := [some (.ref 0), some (.int 1), some (.int r7)]) (q := 46) rfl (Nat.le_of_ble_eq_true rfl) rfl rfl ?_
          refine y_goto (q := 5) rfl rfl ?_
          exact lz_X7_both3_5 hd  k hk n 1 g8 (some (.int r7))
def f_X7_both3  (h : dH) : Option (Int32 × dH) := oI (f_X7_not3  h) (fun r1 g2 => l_X7_both3_5   (fun v1_13 g15 => some (v1_13, g15)) fuel0 r1 g2)
theorem m_X7_both3 {d : Nat} (hd : 21 ≤ d)  (h : dH) : dX shM d 158 [.ref 0] dI (f_X7_both3  h) h := by
  obtain ⟨e, rfl⟩ : ∃ e, d = e + 1 := ⟨d - 1, by omega⟩
  have hd : 20 ≤ e := by omega
  refine dX_of (mj := mj158) (lo := [some (.ref 0), none, none]) rfl (Nat.le_of_ble_eq_true rfl) rfl ?_
  unfold f_X7_both3
  refine y_aload_n (q := 1) rfl rfl rfl ?_
  refine y_callI (I := .invokevirtual 294) (idx := 294) (KD := 1) (J := 167) (mj := mj157) (as := [.ref 0]) (r := []) (q := 4) rfl (fun _ _ _ _ _ _ => rfl) rfl (by decide) rfl rfl rfl rfl rfl (Nat.le_of_ble_eq_true rfl) (d_recv atM0 (by decide) (by decide)) rfl (m_X7_not3 (Nat.le_trans (by decide) hd)  h) (fun r1 g2 => ?_)
  refine y_istore_n (lo' := [some (.ref 0), some (.int r1), none]) (q := 5) rfl (Nat.le_of_ble_eq_true rfl) rfl rfl ?_
  refine lz_X7_both3_5 hd   _ (fun v1_13 z14 g15 => ?_) fuel0 r1 g2 (none)
  refine y_iload_n (q := 50) rfl rfl rfl ?_
  exact y_retI rfl (by decide) rfl rfl
end
end
