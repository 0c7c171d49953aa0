/-! X7_best, X7_change, X7_clears, X7_sitsAgain, X7_split, X7_missed, X7_match, X7_unlike, X7_limitsBy, X7_isSheet, X7_tells (by program) -/
noncomputable section
def l_X7_best_50 (v1 : Int32) (v2 : Int32) (k : Int32 → Int32 → dH → Option (Int32 × dH)) : Nat → Int32 → Int32 → Int32 → dH → Option (Int32 × dH)
  | 0, _, _, _, _ => none
  | n + 1, v5, v6, v7, h => if v7.toInt < 4 then (if 0 ≤ v1.toInt ∧ v1.toInt < 8 then (oH (dU h 6 (v1.toInt.toNat) v7) (fun g13 => oI (f_X7_friendsBehind v2 g13) (fun r15 g16 => if v6.toInt < r15.toInt then (l_X7_best_50 v1 v2 k n v7 r15 (v7 + 1) g16) else (l_X7_best_50 v1 v2 k n v5 v6 (v7 + 1) g16)))) else none) else (k v5 v6 h)
theorem lz_X7_best_50 {d : Nat} (hd : 47 ≤ d) (v1 : Int32) (v2 : Int32) (v3 : Int32) (v4 : Int32) (k : Int32 → Int32 → dH → Option (Int32 × dH)) (hk : ∀ (v5 : Int32) (v6 : Int32) (w7 : Int32) (z8 : Option Value) (h : dH), dY shM d mj209 dI (k v5 v6 h) 92 [some (.ref 0), some (.int v1), some (.int v2), some (.int v3), some (.int v4), some (.int v5), some (.int v6), some (.int w7), z8] [] h) : ∀ (n : Nat) (v5 : Int32) (v6 : Int32) (v7 : Int32) (h : dH) (z8 : Option Value), dY shM d mj209 dI (l_X7_best_50 v1 v2 k n v5 v6 v7 h) 50 [some (.ref 0), some (.int v1), some (.int v2), some (.int v3), some (.int v4), some (.int v5), some (.int v6), some (.int v7), z8] [] h
  | 0, _, _, _, _, _ => dY_none
  | n + 1, v5, v6, v7, h, z8 => by
    rw [l_X7_best_50]
    refine y_iload (q := 52) rfl rfl rfl ?_
    refine y_iconst (x := 4) (q := 53) rfl (by decide) rfl ?_
    refine y_ge (q := 92) (q' := 56) rfl rfl (by decide) rfl rfl (fun c11 => ?_) (fun c12 => ?_)
    · skip
      refine y_aload_n (q := 57) rfl rfl rfl ?_
      refine y_getR (b := 6) (q := 60) rfl rfl (by decide) atM0 rfl rfl ?_
      refine y_iload_n (q := 61) rfl rfl rfl ?_
      refine y_iload (q := 63) rfl rfl rfl ?_
      refine y_guard (fun c14 => ?_)
      refine y_iast (n := 8) (N := 8) (X := v1.toInt) (K := v1.toInt.toNat) (q := 64) rfl atM6 rfl rfl c14 rfl rfl (fun g13 => ?_)
      refine y_aload_n (q := 65) rfl rfl rfl ?_
      refine y_iload_n (q := 66) rfl rfl rfl ?_
      refine y_callI (I := .invokevirtual 425) (idx := 425) (KD := 1) (J := 217) (mj := mj207) (as := [.ref 0, .int v2]) (r := []) (q := 69) rfl (fun _ _ _ _ _ _ => rfl) rfl (by decide) rfl rfl rfl rfl rfl (Nat.le_of_ble_eq_true rfl) (d_recv atM0 (by decide) (by decide)) rfl (m_X7_friendsBehind (Nat.le_trans (by decide) hd) v2 g13) (fun r15 g16 => ?_)
      refine y_istore (lo' := [some (.ref 0), some (.int v1), some (.int v2), some (.int v3), some (.int v4), some (.int v5), some (.int v6), some (.int v7), some (.int r15)]) (q := 71) rfl (Nat.le_of_ble_eq_true rfl) rfl rfl ?_
      refine y_iload (q := 73) rfl rfl rfl ?_
      refine y_iload (q := 75) rfl rfl rfl ?_
      refine y_le (q := 86) (q' := 78) rfl rfl rfl rfl rfl (fun c17 => ?_) (fun c18 => ?_)
      · skip
        refine y_iload (q := 80) rfl rfl rfl ?_
        refine y_istore (lo' := [some (.ref 0), some (.int v1), some (.int v2), some (.int v3), some (.int v4), some (.int v7), some (.int v6), some (.int v7), some (.int r15)]) (q := 82) rfl (Nat.le_of_ble_eq_true rfl) rfl rfl ?_
        refine y_iload (q := 84) rfl rfl rfl ?_
        refine y_istore (lo' := [some (.ref 0), some (.int v1), some (.int v2), some (.int v3), some (.int v4), some (.int v7), some (.int r15), some (.int v7), some (.int r15)]) (q := 86) rfl (Nat.le_of_ble_eq_true rfl) rfl rfl ?_
        refine y_iinc (z := (v7 + 1)) (lo' := [some (.ref 0), some (.int v1), some (.int v2), some (.int v3), some (.int v4), some (.int v7), some (.int r15), some (.int (v7 + 1)), some (.int r15)]) (q := 89) rfl rfl (Nat.le_of_ble_eq_true rfl) (by rw [oi_1]) rfl rfl ?_
        refine y_goto (q := 50) rfl rfl ?_
        exact lz_X7_best_50 hd v1 v2 v3 v4 k hk n v7 r15 (v7 + 1) g16 (some (.int r15))
      · skip
        refine y_iinc (z := (v7 + 1)) (lo' := [some (.ref 0), some (.int v1), some (.int v2), some (.int v3), some (.int v4), some (.int v5), some (.int v6), some (.int (v7 + 1)), some (.int r15)]) (q := 89) rfl rfl (Nat.le_of_ble_eq_true rfl) (by rw [oi_1]) rfl rfl ?_
        refine y_goto (q := 50) rfl rfl ?_
        exact lz_X7_best_50 hd v1 v2 v3 v4 k hk n v5 v6 (v7 + 1) g16 (some (.int r15))
    · skip
      exact hk v5 v6 v7 (z8) h
def f_X7_best (v1 : Int32) (v2 : Int32) (v3 : Int32) (h : dH) : Option (Int32 × dH) := oP (f_X7_isHouse v1 h) (fun r1 => if r1.toInt = 0 then (some ((-2), h)) else (oP (f_X7_in (v2.toInt64) 0 20) (fun r4 => if r4.toInt = 0 then (some ((-2), h)) else (oP (f_X7_in (v3.toInt64) 0 1) (fun r7 => if r7.toInt = 0 then (some ((-2), h)) else (if 0 ≤ v1.toInt ∧ v1.toInt < 8 then (l_X7_best_50 v1 v2  (fun v5_19 v6_20 g23 => if 0 ≤ v1.toInt ∧ v1.toInt < 8 then (oH (dU g23 6 (v1.toInt.toNat) (h 6 (v1.toInt.toNat))) (fun g24 => if v3.toInt = 0 then (some (v5_19, g24)) else (some (v6_20, g24)))) else none) fuel0 (-1) (-1) 0 h) else none))))))
theorem m_X7_best {d : Nat} (hd : 48 ≤ d) (v1 : Int32) (v2 : Int32) (v3 : Int32) (h : dH) : dX shM d 209 [.ref 0, .int v1, .int v2, .int v3] dI (f_X7_best v1 v2 v3 h) h := by
  obtain ⟨e, rfl⟩ : ∃ e, d = e + 1 := ⟨d - 1, by omega⟩
  have hd : 47 ≤ e := by omega
  refine dX_of (mj := mj209) (lo := [some (.ref 0), some (.int v1), some (.int v2), some (.int v3), none, none, none, none, none]) rfl (Nat.le_of_ble_eq_true rfl) rfl ?_
  unfold f_X7_best
  refine y_aload_n (q := 1) rfl rfl rfl ?_
  refine y_iload_n (q := 2) rfl rfl rfl ?_
  refine y_callP (I := .invokevirtual 105) (idx := 105) (KD := 1) (J := 132) (mj := mj122) (as := [.ref 0, .int v1]) (r := []) (q := 5) rfl (fun _ _ _ _ _ _ => rfl) rfl (by decide) rfl rfl rfl rfl rfl (Nat.le_of_ble_eq_true rfl) (d_recv atM0 (by decide) (by decide)) rfl (m_X7_isHouse (Nat.le_trans (by decide) hd) v1 h) (fun r1 => ?_)
  refine y_eq0 (q := 30) (q' := 8) rfl rfl rfl rfl (fun c2 => ?_) (fun c3 => ?_)
  · skip
    refine y_bipush (x := (-2)) (q := 32) rfl (by decide) rfl ?_
    exact y_retI rfl (by decide) rfl rfl
  · skip
    refine y_iload_n (q := 9) rfl rfl rfl ?_
    refine y_i2l (q := 10) rfl rfl ?_
    refine y_lconst (u := 0) (q := 11) rfl (by decide) rfl ?_
    refine y_ldc2_w (u := 20) (q := 14) rfl rfl rfl ?_
    refine y_callP (I := .invokestatic 91) (idx := 91) (KD := 0) (J := 128) (mj := mj118) (as := [.long v2.toInt64, .long 0, .long 20]) (r := []) (q := 17) rfl (fun _ _ _ _ _ _ => rfl) rfl (by decide) rfl rfl rfl rfl rfl (Nat.le_of_ble_eq_true rfl) rfl rfl (m_X7_in (Nat.le_trans (by decide) hd) (v2.toInt64) 0 20 h) (fun r4 => ?_)
    refine y_eq0 (q := 30) (q' := 20) rfl rfl rfl rfl (fun c5 => ?_) (fun c6 => ?_)
    · skip
      refine y_bipush (x := (-2)) (q := 32) rfl (by decide) rfl ?_
      exact y_retI rfl (by decide) rfl rfl
    · skip
      refine y_iload_n (q := 21) rfl rfl rfl ?_
      refine y_i2l (q := 22) rfl rfl ?_
      refine y_lconst (u := 0) (q := 23) rfl (by decide) rfl ?_
      refine y_lconst (u := 1) (q := 24) rfl (by decide) rfl ?_
      refine y_callP (I := .invokestatic 91) (idx := 91) (KD := 0) (J := 128) (mj := mj118) (as := [.long v3.toInt64, .long 0, .long 1]) (r := []) (q := 27) rfl (fun _ _ _ _ _ _ => rfl) rfl (by decide) rfl rfl rfl rfl rfl (Nat.le_of_ble_eq_true rfl) rfl rfl (m_X7_in (Nat.le_trans (by decide) hd) (v3.toInt64) 0 1 h) (fun r7 => ?_)
      refine y_ne0 (q := 33) (q' := 30) rfl rfl rfl rfl (fun c8 => ?_) (fun c9 => ?_)
      · skip
        refine y_bipush (x := (-2)) (q := 32) rfl (by decide) rfl ?_
        exact y_retI rfl (by decide) rfl rfl
      · skip
        refine y_aload_n (q := 34) rfl rfl rfl ?_
        refine y_getR (b := 6) (q := 37) rfl rfl (by decide) atM0 rfl rfl ?_
        refine y_iload_n (q := 38) rfl rfl rfl ?_
        refine y_guard (fun c10 => ?_)
        refine y_iald (n := 8) (N := 8) (X := v1.toInt) (K := v1.toInt.toNat) (q := 39) hbM rfl atM6 rfl rfl c10 rfl rfl ?_
        refine y_istore (lo' := [some (.ref 0), some (.int v1), some (.int v2), some (.int v3), some (.int (h 6 (v1.toInt.toNat))), none, none, none, none]) (q := 41) rfl (Nat.le_of_ble_eq_true rfl) rfl rfl ?_
        refine y_iconst (x := (-1)) (q := 42) rfl (by decide) rfl ?_
        refine y_istore (lo' := [some (.ref 0), some (.int v1), some (.int v2), some (.int v3), some (.int (h 6 (v1.toInt.toNat))), some (.int (-1)), none, none, none]) (q := 44) rfl (Nat.le_of_ble_eq_true rfl) rfl rfl ?_
        refine y_iconst (x := (-1)) (q := 45) rfl (by decide) rfl ?_
        refine y_istore (lo' := [some (.ref 0), some (.int v1), some (.int v2), some (.int v3), some (.int (h 6 (v1.toInt.toNat))), some (.int (-1)), some (.int (-1)), none, none]) (q := 47) rfl (Nat.le_of_ble_eq_true rfl) rfl rfl ?_
        refine y_iconst (x := 0) (q := 48) rfl (by decide) rfl ?_
        refine y_istore (lo' := [some (.ref 0), some (.int v1), some (.int v2), some (.int v3), some (.int (h 6 (v1.toInt.toNat))), some (.int (-1)), some (.int (-1)), some (.int 0), none]) (q := 50) rfl (Nat.le_of_ble_eq_true rfl) rfl rfl ?_
        refine lz_X7_best_50 hd v1 v2 v3 (h 6 (v1.toInt.toNat))  _ (fun v5_19 v6_20 z21 z22 g23 => ?_) fuel0 (-1) (-1) 0 h (none)
        refine y_aload_n (q := 93) rfl rfl rfl ?_
        refine y_getR (b := 6) (q := 96) rfl rfl (by decide) atM0 rfl rfl ?_
        refine y_iload_n (q := 97) rfl rfl rfl ?_
        refine y_iload (q := 99) rfl rfl rfl ?_
        refine y_guard (fun c25 => ?_)
        refine y_iast (n := 8) (N := 8) (X := v1.toInt) (K := v1.toInt.toNat) (q := 100) rfl atM6 rfl rfl c25 rfl rfl (fun g24 => ?_)
        refine y_iload_n (q := 101) rfl rfl rfl ?_
        refine y_ne0 (q := 109) (q' := 104) rfl rfl rfl rfl (fun c26 => ?_) (fun c27 => ?_)
        · skip
          refine y_iload (q := 106) rfl rfl rfl ?_
          refine y_goto (q := 111) rfl rfl ?_
          exact y_retI rfl (by decide) rfl rfl
        · skip
          refine y_iload (q := 111) rfl rfl rfl ?_
          exact y_retI rfl (by decide) rfl rfl
def l_X7_change_52 (v1 : Int32) (v5 : Int32) (k : Int32 → Int32 → dH → Option (Int32 × dH)) : Nat → Int32 → Int32 → Int32 → dH → Option (Int32 × dH)
  | 0, _, _, _, _ => none
  | n + 1, v3, v4, v6, h => if v6.toInt < (h 0 13).toInt then (if 0 ≤ v5.toInt ∧ v5.toInt < 8 then (if 0 ≤ v6.toInt ∧ v6.toInt < 8 then (if (h 6 (v5.toInt.toNat)).toInt = (-1) then (l_X7_change_52 v1 v5 k n v3 v4 (v6 + 1) h) else (if (h 6 (v6.toInt.toNat)).toInt = (-1) then (l_X7_change_52 v1 v5 k n v3 v4 (v6 + 1) h) else (if (h 6 (v5.toInt.toNat)).toInt = (h 6 (v6.toInt.toNat)).toInt then (l_X7_change_52 v1 v5 k n v3 v4 (v6 + 1) h) else (if 0 ≤ v5.toInt ∧ v5.toInt < 8 then (oH (dU h 6 (v5.toInt.toNat) (h 6 (v6.toInt.toNat))) (fun g21 => if 0 ≤ v6.toInt ∧ v6.toInt < 8 then (oH (dU g21 6 (v6.toInt.toNat) (h 6 (v5.toInt.toNat))) (fun g23 => oI (f_X7_friendsBehind v1 g23) (fun r25 g26 => if 0 ≤ v5.toInt ∧ v5.toInt < 8 then (oH (dU g26 6 (v5.toInt.toNat) (h 6 (v5.toInt.toNat))) (fun g27 => if 0 ≤ v6.toInt ∧ v6.toInt < 8 then (oH (dU g27 6 (v6.toInt.toNat) (h 6 (v6.toInt.toNat))) (fun g29 => if v4.toInt < r25.toInt then (l_X7_change_52 v1 v5 k n ((10 * v5) + v6) r25 (v6 + 1) g29) else (l_X7_change_52 v1 v5 k n v3 v4 (v6 + 1) g29))) else none)) else none))) else none)) else none)))) else none) else none) else (k v3 v4 h)
theorem lz_X7_change_52 {d : Nat} (hd : 47 ≤ d) (v1 : Int32) (v2 : Int32) (v5 : Int32) (k : Int32 → Int32 → dH → Option (Int32 × dH)) (hk : ∀ (v3 : Int32) (v4 : Int32) (w6 : Int32) (z7 : Option Value) (z8 : Option Value) (z9 : Option Value) (h : dH), dY shM d mj210 dI (k v3 v4 h) 167 [some (.ref 0), some (.int v1), some (.int v2), some (.int v3), some (.int v4), some (.int v5), some (.int w6), z7, z8, z9] [] h) : ∀ (n : Nat) (v3 : Int32) (v4 : Int32) (v6 : Int32) (h : dH) (z7 : Option Value) (z8 : Option Value) (z9 : Option Value), dY shM d mj210 dI (l_X7_change_52 v1 v5 k n v3 v4 v6 h) 52 [some (.ref 0), some (.int v1), some (.int v2), some (.int v3), some (.int v4), some (.int v5), some (.int v6), z7, z8, z9] [] h
  | 0, _, _, _, _, _, _, _ => dY_none
  | n + 1, v3, v4, v6, h, z7, z8, z9 => by
    rw [l_X7_change_52]
    refine y_iload (q := 54) rfl rfl rfl ?_
    refine y_aload_n (q := 55) rfl rfl rfl ?_
    refine y_getI (q := 58) rfl rfl (by decide) atM0 rfl rfl ?_
    refine y_ge (q := 167) (q' := 61) rfl rfl rfl rfl rfl (fun c11 => ?_) (fun c12 => ?_)
    · skip
      refine y_aload_n (q := 62) rfl rfl rfl ?_
      refine y_getR (b := 6) (q := 65) rfl rfl (by decide) atM0 rfl rfl ?_
      refine y_iload (q := 67) rfl rfl rfl ?_
      refine y_guard (fun c13 => ?_)
      refine y_iald (n := 8) (N := 8) (X := v5.toInt) (K := v5.toInt.toNat) (q := 68) hbM rfl atM6 rfl rfl c13 rfl rfl ?_
      refine y_istore (lo' := [some (.ref 0), some (.int v1), some (.int v2), some (.int v3), some (.int v4), some (.int v5), some (.int v6), some (.int (h 6 (v5.toInt.toNat))), z8, z9]) (q := 70) rfl (Nat.le_of_ble_eq_true rfl) rfl rfl ?_
      refine y_aload_n (q := 71) rfl rfl rfl ?_
      refine y_getR (b := 6) (q := 74) rfl rfl (by decide) atM0 rfl rfl ?_
      refine y_iload (q := 76) rfl rfl rfl ?_
      refine y_guard (fun c14 => ?_)
      refine y_iald (n := 8) (N := 8) (X := v6.toInt) (K := v6.toInt.toNat) (q := 77) hbM rfl atM6 rfl rfl c14 rfl rfl ?_
      refine y_istore (lo' := [some (.ref 0), some (.int v1), some (.int v2), some (.int v3), some (.int v4), some (.int v5), some (.int v6), some (.int (h 6 (v5.toInt.toNat))), some (.int (h 6 (v6.toInt.toNat))), z9]) (q := 79) rfl (Nat.le_of_ble_eq_true rfl) rfl rfl ?_
      refine y_iload (q := 81) rfl rfl rfl ?_
      refine y_iconst (x := (-1)) (q := 82) rfl (by decide) rfl ?_
      refine y_eq (q := 161) (q' := 85) rfl rfl (by decide) rfl rfl (fun c15 => ?_) (fun c16 => ?_)
      · skip
        refine y_iinc (z := (v6 + 1)) (lo' := [some (.ref 0), some (.int v1), some (.int v2), some (.int v3), some (.int v4), some (.int v5), some (.int (v6 + 1)), some (.int (h 6 (v5.toInt.toNat))), some (.int (h 6 (v6.toInt.toNat))), z9]) (q := 164) rfl rfl (Nat.le_of_ble_eq_true rfl) (by rw [oi_1]) rfl rfl ?_
        refine y_goto (q := 52) rfl rfl ?_
        exact lz_X7_change_52 hd v1 v2 v5 k hk n v3 v4 (v6 + 1) h (some (.int (h 6 (v5.toInt.toNat)))) (some (.int (h 6 (v6.toInt.toNat)))) (z9)
      · skip
        refine y_iload (q := 87) rfl rfl rfl ?_
        refine y_iconst (x := (-1)) (q := 88) rfl (by decide) rfl ?_
        refine y_eq (q := 161) (q' := 91) rfl rfl (by decide) rfl rfl (fun c17 => ?_) (fun c18 => ?_)
        · skip
          refine y_iinc (z := (v6 + 1)) (lo' := [some (.ref 0), some (.int v1), some (.int v2), some (.int v3), some (.int v4), some (.int v5), some (.int (v6 + 1)), some (.int (h 6 (v5.toInt.toNat))), some (.int (h 6 (v6.toInt.toNat))), z9]) (q := 164) rfl rfl (Nat.le_of_ble_eq_true rfl) (by rw [oi_1]) rfl rfl ?_
          refine y_goto (q := 52) rfl rfl ?_
          exact lz_X7_change_52 hd v1 v2 v5 k hk n v3 v4 (v6 + 1) h (some (.int (h 6 (v5.toInt.toNat)))) (some (.int (h 6 (v6.toInt.toNat)))) (z9)
        · skip
          refine y_iload (q := 93) rfl rfl rfl ?_
          refine y_iload (q := 95) rfl rfl rfl ?_
          refine y_eq (q := 161) (q' := 98) rfl rfl rfl rfl rfl (fun c19 => ?_) (fun c20 => ?_)
          · skip
            refine y_iinc (z := (v6 + 1)) (lo' := [some (.ref 0), some (.int v1), some (.int v2), some (.int v3), some (.int v4), some (.int v5), some (.int (v6 + 1)), some (.int (h 6 (v5.toInt.toNat))), some (.int (h 6 (v6.toInt.toNat))), z9]) (q := 164) rfl rfl (Nat.le_of_ble_eq_true rfl) (by rw [oi_1]) rfl rfl ?_
            refine y_goto (q := 52) rfl rfl ?_
            exact lz_X7_change_52 hd v1 v2 v5 k hk n v3 v4 (v6 + 1) h (some (.int (h 6 (v5.toInt.toNat)))) (some (.int (h 6 (v6.toInt.toNat)))) (z9)
          · skip
            refine y_aload_n (q := 99) rfl rfl rfl ?_
            refine y_getR (b := 6) (q := 102) rfl rfl (by decide) atM0 rfl rfl ?_
            refine y_iload (q := 104) rfl rfl rfl ?_
            refine y_iload (q := 106) rfl rfl rfl ?_
            refine y_guard (fun c22 => ?_)
            refine y_iast (n := 8) (N := 8) (X := v5.toInt) (K := v5.toInt.toNat) (q := 107) rfl atM6 rfl rfl c22 rfl rfl (fun g21 => ?_)
            refine y_aload_n (q := 108) rfl rfl rfl ?_
            refine y_getR (b := 6) (q := 111) rfl rfl (by decide) atM0 rfl rfl ?_
            refine y_iload (q := 113) rfl rfl rfl ?_
            refine y_iload (q := 115) rfl rfl rfl ?_
            refine y_guard (fun c24 => ?_)
            refine y_iast (n := 8) (N := 8) (X := v6.toInt) (K := v6.toInt.toNat) (q := 116) rfl atM6 rfl rfl c24 rfl rfl (fun g23 => ?_)
            refine y_aload_n (q := 117) rfl rfl rfl ?_
            refine y_iload_n (q := 118) rfl rfl rfl ?_
            refine y_callI (I := .invokevirtual 425) (idx := 425) (KD := 1) (J := 217) (mj := mj207) (as := [.ref 0, .int v1]) (r := []) (q := 121) rfl (fun _ _ _ _ _ _ => rfl) rfl (by decide) rfl rfl rfl rfl rfl (Nat.le_of_ble_eq_true rfl) (d_recv atM0 (by decide) (by decide)) rfl (m_X7_friendsBehind (Nat.le_trans (by decide) hd) v1 g23) (fun r25 g26 => ?_)
            refine y_istore (lo' := [some (.ref 0), some (.int v1), some (.int v2), some (.int v3), some (.int v4), some (.int v5), some (.int v6), some (.int (h 6 (v5.toInt.toNat))), some (.int (h 6 (v6.toInt.toNat))), some (.int r25)]) (q := 123) rfl (Nat.le_of_ble_eq_true rfl) rfl rfl ?_
            refine y_aload_n (q := 124) rfl rfl rfl ?_
            refine y_getR (b := 6) (q := 127) rfl rfl (by decide) atM0 rfl rfl ?_
            refine y_iload (q := 129) rfl rfl rfl ?_
            refine y_iload (q := 131) rfl rfl rfl ?_
            refine y_guard (fun c28 => ?_)
            refine y_iast (n := 8) (N := 8) (X := v5.toInt) (K := v5.toInt.toNat) (q := 132) rfl atM6 rfl rfl c28 rfl rfl (fun g27 => ?_)
            refine y_aload_n (q := 133) rfl rfl rfl ?_
            refine y_getR (b := 6) (q := 136) rfl rfl (by decide) atM0 rfl rfl ?_
            refine y_iload (q := 138) rfl rfl rfl ?_
            refine y_iload (q := 140) rfl rfl rfl ?_
            refine y_guard (fun c30 => ?_)
            refine y_iast (n := 8) (N := 8) (X := v6.toInt) (K := v6.toInt.toNat) (q := 141) rfl atM6 rfl rfl c30 rfl rfl (fun g29 => ?_)
            refine y_iload (q := 143) rfl rfl rfl ?_
            refine y_iload (q := 145) rfl rfl rfl ?_
            refine y_le (q := 161) (q' := 148) rfl rfl rfl rfl rfl (fun c31 => ?_) (fun c32 => ?_)
            · skip
              refine y_bipush (x := 10) (q := 150) rfl (by decide) rfl ?_
              refine y_iload (q := 152) rfl rfl rfl ?_
              refine y_imul (q := 153) rfl rfl ?_
              refine y_iload (q := 155) rfl rfl rfl ?_
              refine y_iadd (q := 156) rfl rfl ?_
              refine y_istore_n (lo' := [some (.ref 0), some (.int v1), some (.int v2), some (.int ((10 * v5) + v6)), some (.int v4), some (.int v5), some (.int v6), some (.int (h 6 (v5.toInt.toNat))), some (.int (h 6 (v6.toInt.toNat))), some (.int r25)]) (q := 157) rfl (Nat.le_of_ble_eq_true rfl) rfl rfl ?_
              refine y_iload (q := 159) rfl rfl rfl ?_
              refine y_istore (lo' := [some (.ref 0), some (.int v1), some (.int v2), some (.int ((10 * v5) + v6)), some (.int r25), some (.int v5), some (.int v6), some (.int (h 6 (v5.toInt.toNat))), some (.int (h 6 (v6.toInt.toNat))), some (.int r25)]) (q := 161) rfl (Nat.le_of_ble_eq_true rfl) rfl rfl ?_
              refine y_iinc (z := (v6 + 1)) (lo' := [some (.ref 0), some (.int v1), some (.int v2), some (.int ((10 * v5) + v6)), some (.int r25), some (.int v5), some (.int (v6 + 1)), some (.int (h 6 (v5.toInt.toNat))), some (.int (h 6 (v6.toInt.toNat))), some (.int r25)]) (q := 164) rfl rfl (Nat.le_of_ble_eq_true rfl) (by rw [oi_1]) rfl rfl ?_
              refine y_goto (q := 52) rfl rfl ?_
              exact lz_X7_change_52 hd v1 v2 v5 k hk n ((10 * v5) + v6) r25 (v6 + 1) g29 (some (.int (h 6 (v5.toInt.toNat)))) (some (.int (h 6 (v6.toInt.toNat)))) (some (.int r25))
            · skip
              refine y_iinc (z := (v6 + 1)) (lo' := [some (.ref 0), some (.int v1), some (.int v2), some (.int v3), some (.int v4), some (.int v5), some (.int (v6 + 1)), some (.int (h 6 (v5.toInt.toNat))), some (.int (h 6 (v6.toInt.toNat))), some (.int r25)]) (q := 164) rfl rfl (Nat.le_of_ble_eq_true rfl) (by rw [oi_1]) rfl rfl ?_
              refine y_goto (q := 52) rfl rfl ?_
              exact lz_X7_change_52 hd v1 v2 v5 k hk n v3 v4 (v6 + 1) g29 (some (.int (h 6 (v5.toInt.toNat)))) (some (.int (h 6 (v6.toInt.toNat)))) (some (.int r25))
    · skip
      exact hk v3 v4 v6 (z7) (z8) (z9) h
def l_X7_change_37 (v1 : Int32) (k : Int32 → Int32 → dH → Option (Int32 × dH)) : Nat → Int32 → Int32 → Int32 → dH → Option (Int32 × dH)
  | 0, _, _, _, _ => none
  | n + 1, v3, v4, v5, h => if v5.toInt < (h 0 13).toInt then (l_X7_change_52 v1 v5  (fun v3_33 v4_34 g39 => l_X7_change_37 v1 k n v3_33 v4_34 (v5 + 1) g39) fuel0 v3 v4 (v5 + 1) h) else (k v3 v4 h)
theorem lz_X7_change_37 {d : Nat} (hd : 47 ≤ d) (v1 : Int32) (v2 : Int32) (k : Int32 → Int32 → dH → Option (Int32 × dH)) (hk : ∀ (v3 : Int32) (v4 : Int32) (w5 : Int32) (z6 : Option Value) (z7 : Option Value) (z8 : Option Value) (z9 : Option Value) (h : dH), dY shM d mj210 dI (k v3 v4 h) 173 [some (.ref 0), some (.int v1), some (.int v2), some (.int v3), some (.int v4), some (.int w5), z6, z7, z8, z9] [] h) : ∀ (n : Nat) (v3 : Int32) (v4 : Int32) (v5 : Int32) (h : dH) (z6 : Option Value) (z7 : Option Value) (z8 : Option Value) (z9 : Option Value), dY shM d mj210 dI (l_X7_change_37 v1 k n v3 v4 v5 h) 37 [some (.ref 0), some (.int v1), some (.int v2), some (.int v3), some (.int v4), some (.int v5), z6, z7, z8, z9] [] h
  | 0, _, _, _, _, _, _, _, _ => dY_none
  | n + 1, v3, v4, v5, h, z6, z7, z8, z9 => by
    rw [l_X7_change_37]
    refine y_iload (q := 39) rfl rfl rfl ?_
    refine y_aload_n (q := 40) rfl rfl rfl ?_
    refine y_getI (q := 43) rfl rfl (by decide) atM0 rfl rfl ?_
    refine y_ge (q := 173) (q' := 46) rfl rfl rfl rfl rfl (fun c9 => ?_) (fun c10 => ?_)
    · skip
      refine y_iload (q := 48) rfl rfl rfl ?_
      refine y_iconst (x := 1) (q := 49) rfl (by decide) rfl ?_
      refine y_iadd (q := 50) rfl rfl ?_
      refine y_istore (lo' := [some (.ref 0), some (.int v1), some (.int v2), some (.int v3), some (.int v4), some (.int v5), some (.int (v5 + 1)), z7, z8, z9]) (q := 52) rfl (Nat.le_of_ble_eq_true rfl) rfl rfl ?_
      refine lz_X7_change_52 hd v1 v2 v5  _ (fun v3_33 v4_34 z35 z36 z37 z38 g39 => ?_) fuel0 v3 v4 (v5 + 1) h (z7) (z8) (z9)
      refine y_iinc (z := (v5 + 1)) (lo' := [some (.ref 0), some (.int v1), some (.int v2), some (.int v3_33), some (.int v4_34), some (.int (v5 + 1)), some (.int z35), z36, z37, z38]) (q := 170) rfl rfl (Nat.le_of_ble_eq_true rfl) (by rw [oi_1]) rfl rfl ?_
      refine y_goto (q := 37) rfl rfl ?_
      exact lz_X7_change_37 hd v1 v2 k hk n v3_33 v4_34 (v5 + 1) g39 (some (.int z35)) (z36) (z37) (z38)
    · skip
      exact hk v3 v4 v5 (z6) (z7) (z8) (z9) h
def f_X7_change (v1 : Int32) (v2 : Int32) (h : dH) : Option (Int32 × dH) := oP (f_X7_in (v1.toInt64) 0 20) (fun r1 => if r1.toInt = 0 then (some ((-2), h)) else (oP (f_X7_in (v2.toInt64) 0 1) (fun r4 => if r4.toInt = 0 then (some ((-2), h)) else (oI (f_X7_friendsBehind v1 h) (fun r7 g8 => l_X7_change_37 v1  (fun v3_40 v4_41 g47 => if v2.toInt = 0 then (some (v3_40, g47)) else (some (v4_41, g47))) fuel0 (-1) r7 0 g8)))))
theorem m_X7_change {d : Nat} (hd : 48 ≤ d) (v1 : Int32) (v2 : Int32) (h : dH) : dX shM d 210 [.ref 0, .int v1, .int v2] dI (f_X7_change v1 v2 h) h := by
  obtain ⟨e, rfl⟩ : ∃ e, d = e + 1 := ⟨d - 1, by omega⟩
  have hd : 47 ≤ e := by omega
  refine dX_of (mj := mj210) (lo := [some (.ref 0), some (.int v1), some (.int v2), none, none, none, none, none, none, none]) rfl (Nat.le_of_ble_eq_true rfl) rfl ?_
  unfold f_X7_change
  refine y_iload_n (q := 1) rfl rfl rfl ?_
  refine y_i2l (q := 2) rfl rfl ?_
  refine y_lconst (u := 0) (q := 3) rfl (by decide) rfl ?_
  refine y_ldc2_w (u := 20) (q := 6) rfl rfl rfl ?_
  refine y_callP (I := .invokestatic 91) (idx := 91) (KD := 0) (J := 128) (mj := mj118) (as := [.long v1.toInt64, .long 0, .long 20]) (r := []) (q := 9) rfl (fun _ _ _ _ _ _ => rfl) rfl (by decide) rfl rfl rfl rfl rfl (Nat.le_of_ble_eq_true rfl) rfl rfl (m_X7_in (Nat.le_trans (by decide) hd) (v1.toInt64) 0 20 h) (fun r1 => ?_)
  refine y_eq0 (q := 22) (q' := 12) rfl rfl rfl rfl (fun c2 => ?_) (fun c3 => ?_)
  · skip
    refine y_bipush (x := (-2)) (q := 24) rfl (by decide) rfl ?_
    exact y_retI rfl (by decide) rfl rfl
  · skip
    refine y_iload_n (q := 13) rfl rfl rfl ?_
    refine y_i2l (q := 14) rfl rfl ?_
    refine y_lconst (u := 0) (q := 15) rfl (by decide) rfl ?_
    refine y_lconst (u := 1) (q := 16) rfl (by decide) rfl ?_
    refine y_callP (I := .invokestatic 91) (idx := 91) (KD := 0) (J := 128) (mj := mj118) (as := [.long v2.toInt64, .long 0, .long 1]) (r := []) (q := 19) rfl (fun _ _ _ _ _ _ => rfl) rfl (by decide) rfl rfl rfl rfl rfl (Nat.le_of_ble_eq_true rfl) rfl rfl (m_X7_in (Nat.le_trans (by decide) hd) (v2.toInt64) 0 1 h) (fun r4 => ?_)
    refine y_ne0 (q := 25) (q' := 22) rfl rfl rfl rfl (fun c5 => ?_) (fun c6 => ?_)
    · skip
      refine y_bipush (x := (-2)) (q := 24) rfl (by decide) rfl ?_
      exact y_retI rfl (by decide) rfl rfl
    · skip
      refine y_iconst (x := (-1)) (q := 26) rfl (by decide) rfl ?_
      refine y_istore_n (lo' := [some (.ref 0), some (.int v1), some (.int v2), some (.int (-1)), none, none, none, none, none, none]) (q := 27) rfl (Nat.le_of_ble_eq_true rfl) rfl rfl ?_
      refine y_aload_n (q := 28) rfl rfl rfl ?_
      refine y_iload_n (q := 29) rfl rfl rfl ?_
      refine y_callI (I := .invokevirtual 425) (idx := 425) (KD := 1) (J := 217) (mj := mj207) (as := [.ref 0, .int v1]) (r := []) (q := 32) rfl (fun _ _ _ _ _ _ => rfl) rfl (by decide) rfl rfl rfl rfl rfl (Nat.le_of_ble_eq_true rfl) (d_recv atM0 (by decide) (by decide)) rfl (m_X7_friendsBehind (Nat.le_trans (by decide) hd) v1 h) (fun r7 g8 => ?_)
      refine y_istore (lo' := [some (.ref 0), some (.int v1), some (.int v2), some (.int (-1)), some (.int r7), none, none, none, none, none]) (q := 34) rfl (Nat.le_of_ble_eq_true rfl) rfl rfl ?_
      refine y_iconst (x := 0) (q := 35) rfl (by decide) rfl ?_
      refine y_istore (lo' := [some (.ref 0), some (.int v1), some (.int v2), some (.int (-1)), some (.int r7), some (.int 0), none, none, none, none]) (q := 37) rfl (Nat.le_of_ble_eq_true rfl) rfl rfl ?_
      refine lz_X7_change_37 hd v1 v2  _ (fun v3_40 v4_41 z42 z43 z44 z45 z46 g47 => ?_) fuel0 (-1) r7 0 g8 (none) (none) (none) (none)
      refine y_iload_n (q := 174) rfl rfl rfl ?_
      refine y_ne0 (q := 181) (q' := 177) rfl rfl rfl rfl (fun c48 => ?_) (fun c49 => ?_)
      · skip
        refine y_iload_n (q := 178) rfl rfl rfl ?_
        refine y_goto (q := 183) rfl rfl ?_
        exact y_retI rfl (by decide) rfl rfl
      · skip
        refine y_iload (q := 183) rfl rfl rfl ?_
        exact y_retI rfl (by decide) rfl rfl
def l_X7_clears_2  (k : dH → Option (dH)) : Nat → Int32 → dH → Option (dH)
  | 0, _, _ => none
  | n + 1, v1, h => if v1.toInt < (h 0 13).toInt then (if 0 ≤ v1.toInt ∧ v1.toInt < 8 then (if 0 ≤ v1.toInt ∧ v1.toInt < 8 then (oH (dU h 10 (v1.toInt.toNat) (h 6 (v1.toInt.toNat))) (fun g4 => l_X7_clears_2  k n (v1 + 1) g4)) else none) else none) else (k  h)
theorem lz_X7_clears_2 {d : Nat} (hd : 0 ≤ d)  (k : dH → Option (dH)) (hk : ∀ (w1 : Int32) (h : dH), dY shM d mj211 dV (k h) 28 [some (.ref 0), some (.int w1)] [] h) : ∀ (n : Nat) (v1 : Int32) (h : dH), dY shM d mj211 dV (l_X7_clears_2  k n v1 h) 2 [some (.ref 0), some (.int v1)] [] h
  | 0, _, _ => dY_none
  | n + 1, v1, h => by
    rw [l_X7_clears_2]
    refine y_iload_n (q := 3) rfl rfl rfl ?_
    refine y_aload_n (q := 4) rfl rfl rfl ?_
    refine y_getI (q := 7) rfl rfl (by decide) atM0 rfl rfl ?_
    refine y_ge (q := 28) (q' := 10) rfl rfl rfl rfl rfl (fun c1 => ?_) (fun c2 => ?_)
    · skip
      refine y_aload_n (q := 11) rfl rfl rfl ?_
      refine y_getR (b := 10) (q := 14) rfl rfl (by decide) atM0 rfl rfl ?_
      refine y_iload_n (q := 15) rfl rfl rfl ?_
      refine y_aload_n (q := 16) rfl rfl rfl ?_
      refine y_getR (b := 6) (q := 19) rfl rfl (by decide) atM0 rfl rfl ?_
      refine y_iload_n (q := 20) rfl rfl rfl ?_
      refine y_guard (fun c3 => ?_)
      refine y_iald (n := 8) (N := 8) (X := v1.toInt) (K := v1.toInt.toNat) (q := 21) hbM rfl atM6 rfl rfl c3 rfl rfl ?_
      refine y_guard (fun c5 => ?_)
      refine y_iast (n := 8) (N := 8) (X := v1.toInt) (K := v1.toInt.toNat) (q := 22) rfl atM10 rfl rfl c5 rfl rfl (fun g4 => ?_)
      refine y_iinc (z := (v1 + 1)) (lo' := [some (.ref 0), some (.int (v1 + 1))]) (q := 25) rfl rfl (Nat.le_of_ble_eq_true rfl) (by rw [oi_1]) rfl rfl ?_
      refine y_goto (q := 2) rfl rfl ?_
      exact lz_X7_clears_2 hd  k hk n (v1 + 1) g4 
    · skip
      exact hk  v1 h
def f_X7_clears  (h : dH) : Option (dH) := l_X7_clears_2   (fun g7 => some g7) fuel0 0 h
theorem m_X7_clears {d : Nat} (hd : 1 ≤ d)  (h : dH) : dX shM d 211 [.ref 0] dV (f_X7_clears  h) h := by
  obtain ⟨e, rfl⟩ : ∃ e, d = e + 1 := ⟨d - 1, by omega⟩
  have hd : 0 ≤ e := by omega
  refine dX_of (mj := mj211) (lo := [some (.ref 0), none]) rfl (Nat.le_of_ble_eq_true rfl) rfl ?_
  unfold f_X7_clears
  refine y_iconst (x := 0) (q := 1) rfl (by decide) rfl ?_
  refine y_istore_n (lo' := [some (.ref 0), some (.int 0)]) (q := 2) rfl (Nat.le_of_ble_eq_true rfl) rfl rfl ?_
  refine lz_X7_clears_2 hd   _ (fun z6 g7 => ?_) fuel0 0 h 
  exact y_retV rfl rfl rfl
def l_X7_sitsAgain_2  (k : dH → Option (dH)) : Nat → Int32 → dH → Option (dH)
  | 0, _, _ => none
  | n + 1, v1, h => if v1.toInt < (h 0 13).toInt then (if 0 ≤ v1.toInt ∧ v1.toInt < 8 then (if 0 ≤ v1.toInt ∧ v1.toInt < 8 then (oH (dU h 6 (v1.toInt.toNat) (h 10 (v1.toInt.toNat))) (fun g4 => l_X7_sitsAgain_2  k n (v1 + 1) g4)) else none) else none) else (k  h)
theorem lz_X7_sitsAgain_2 {d : Nat} (hd : 0 ≤ d)  (k : dH → Option (dH)) (hk : ∀ (w1 : Int32) (h : dH), dY shM d mj212 dV (k h) 28 [some (.ref 0), some (.int w1)] [] h) : ∀ (n : Nat) (v1 : Int32) (h : dH), dY shM d mj212 dV (l_X7_sitsAgain_2  k n v1 h) 2 [some (.ref 0), some (.int v1)] [] h
  | 0, _, _ => dY_none
  | n + 1, v1, h => by
    rw [l_X7_sitsAgain_2]
    refine y_iload_n (q := 3) rfl rfl rfl ?_
    refine y_aload_n (q := 4) rfl rfl rfl ?_
    refine y_getI (q := 7) rfl rfl (by decide) atM0 rfl rfl ?_
    refine y_ge (q := 28) (q' := 10) rfl rfl rfl rfl rfl (fun c1 => ?_) (fun c2 => ?_)
    · skip
      refine y_aload_n (q := 11) rfl rfl rfl ?_
      refine y_getR (b := 6) (q := 14) rfl rfl (by decide) atM0 rfl rfl ?_
      refine y_iload_n (q := 15) rfl rfl rfl ?_
      refine y_aload_n (q := 16) rfl rfl rfl ?_
      refine y_getR (b := 10) (q := 19) rfl rfl (by decide) atM0 rfl rfl ?_
      refine y_iload_n (q := 20) rfl rfl rfl ?_
      refine y_guard (fun c3 => ?_)
      refine y_iald (n := 8) (N := 8) (X := v1.toInt) (K := v1.toInt.toNat) (q := 21) hbM rfl atM10 rfl rfl c3 rfl rfl ?_
      refine y_guard (fun c5 => ?_)
      refine y_iast (n := 8) (N := 8) (X := v1.toInt) (K := v1.toInt.toNat) (q := 22) rfl atM6 rfl rfl c5 rfl rfl (fun g4 => ?_)
      refine y_iinc (z := (v1 + 1)) (lo' := [some (.ref 0), some (.int (v1 + 1))]) (q := 25) rfl rfl (Nat.le_of_ble_eq_true rfl) (by rw [oi_1]) rfl rfl ?_
      refine y_goto (q := 2) rfl rfl ?_
      exact lz_X7_sitsAgain_2 hd  k hk n (v1 + 1) g4 
    · skip
      exact hk  v1 h
def f_X7_sitsAgain  (h : dH) : Option (dH) := l_X7_sitsAgain_2   (fun g7 => some g7) fuel0 0 h
theorem m_X7_sitsAgain {d : Nat} (hd : 1 ≤ d)  (h : dH) : dX shM d 212 [.ref 0] dV (f_X7_sitsAgain  h) h := by
  obtain ⟨e, rfl⟩ : ∃ e, d = e + 1 := ⟨d - 1, by omega⟩
  have hd : 0 ≤ e := by omega
  refine dX_of (mj := mj212) (lo := [some (.ref 0), none]) rfl (Nat.le_of_ble_eq_true rfl) rfl ?_
  unfold f_X7_sitsAgain
  refine y_iconst (x := 0) (q := 1) rfl (by decide) rfl ?_
  refine y_istore_n (lo' := [some (.ref 0), some (.int 0)]) (q := 2) rfl (Nat.le_of_ble_eq_true rfl) rfl rfl ?_
  refine lz_X7_sitsAgain_2 hd   _ (fun z6 g7 => ?_) fuel0 0 h 
  exact y_retV rfl rfl rfl
def l_X7_split_51 (v5 : Int32) (k : dH → Option (Int32 × dH)) : Nat → Int32 → dH → Option (Int32 × dH)
  | 0, _, _ => none
  | n + 1, v6, h => if v6.toInt < (h 0 13).toInt then (if 0 ≤ v6.toInt ∧ v6.toInt < 8 then (oH (dU h 6 (v6.toInt.toNat) ((dshr v5 v6) &&& 1)) (fun g12 => l_X7_split_51 v5 k n (v6 + 1) g12)) else none) else (k  h)
theorem lz_X7_split_51 {d : Nat} (hd : 47 ≤ d) (v1 : Int32) (v2 : Int32) (v3 : Int32) (v4 : Int32) (v5 : Int32) (k : dH → Option (Int32 × dH)) (hk : ∀ (w6 : Int32) (h : dH), dY shM d mj213 dI (k h) 80 [some (.ref 0), some (.int v1), some (.int v2), some (.int v3), some (.int v4), some (.int v5), some (.int w6)] [] h) : ∀ (n : Nat) (v6 : Int32) (h : dH), dY shM d mj213 dI (l_X7_split_51 v5 k n v6 h) 51 [some (.ref 0), some (.int v1), some (.int v2), some (.int v3), some (.int v4), some (.int v5), some (.int v6)] [] h
  | 0, _, _ => dY_none
  | n + 1, v6, h => by
    rw [l_X7_split_51]
    refine y_iload (q := 53) rfl rfl rfl ?_
    refine y_aload_n (q := 54) rfl rfl rfl ?_
    refine y_getI (q := 57) rfl rfl (by decide) atM0 rfl rfl ?_
    refine y_ge (q := 80) (q' := 60) rfl rfl rfl rfl rfl (fun c10 => ?_) (fun c11 => ?_)
    · skip
      refine y_aload_n (q := 61) rfl rfl rfl ?_
      refine y_getR (b := 6) (q := 64) rfl rfl (by decide) atM0 rfl rfl ?_
      refine y_iload (q := 66) rfl rfl rfl ?_
      refine y_iload (q := 68) rfl rfl rfl ?_
      refine y_iload (q := 70) rfl rfl rfl ?_
      refine y_ishr (q := 71) rfl rfl ?_
      refine y_iconst (x := 1) (q := 72) rfl (by decide) rfl ?_
      refine y_iand (q := 73) rfl rfl ?_
      refine y_guard (fun c13 => ?_)
      refine y_iast (n := 8) (N := 8) (X := v6.toInt) (K := v6.toInt.toNat) (q := 74) rfl atM6 rfl rfl c13 rfl rfl (fun g12 => ?_)
      refine y_iinc (z := (v6 + 1)) (lo' := [some (.ref 0), some (.int v1), some (.int v2), some (.int v3), some (.int v4), some (.int v5), some (.int (v6 + 1))]) (q := 77) rfl rfl (Nat.le_of_ble_eq_true rfl) (by rw [oi_1]) rfl rfl ?_
      refine y_goto (q := 51) rfl rfl ?_
      exact lz_X7_split_51 hd v1 v2 v3 v4 v5 k hk n (v6 + 1) g12 
    · skip
      exact hk  v6 h
def l_X7_split_37 (v1 : Int32) (k : Int32 → Int32 → dH → Option (Int32 × dH)) : Nat → Int32 → Int32 → Int32 → dH → Option (Int32 × dH)
  | 0, _, _, _, _ => none
  | n + 1, v3, v4, v5, h => if v5.toInt < (dshl 1 (h 0 13)).toInt then (l_X7_split_51 v5  (fun g15 => oI (f_X7_friendsBehind v1 g15) (fun r16 g17 => if v4.toInt < r16.toInt then (l_X7_split_37 v1 k n v5 r16 (v5 + 1) g17) else (l_X7_split_37 v1 k n v3 v4 (v5 + 1) g17))) fuel0 0 h) else (k v3 v4 h)
theorem lz_X7_split_37 {d : Nat} (hd : 47 ≤ d) (v1 : Int32) (v2 : Int32) (k : Int32 → Int32 → dH → Option (Int32 × dH)) (hk : ∀ (v3 : Int32) (v4 : Int32) (w5 : Int32) (z6 : Option Value) (h : dH), dY shM d mj213 dI (k v3 v4 h) 107 [some (.ref 0), some (.int v1), some (.int v2), some (.int v3), some (.int v4), some (.int w5), z6] [] h) : ∀ (n : Nat) (v3 : Int32) (v4 : Int32) (v5 : Int32) (h : dH) (z6 : Option Value), dY shM d mj213 dI (l_X7_split_37 v1 k n v3 v4 v5 h) 37 [some (.ref 0), some (.int v1), some (.int v2), some (.int v3), some (.int v4), some (.int v5), z6] [] h
  | 0, _, _, _, _, _ => dY_none
  | n + 1, v3, v4, v5, h, z6 => by
    rw [l_X7_split_37]
    refine y_iload (q := 39) rfl rfl rfl ?_
    refine y_iconst (x := 1) (q := 40) rfl (by decide) rfl ?_
    refine y_aload_n (q := 41) rfl rfl rfl ?_
    refine y_getI (q := 44) rfl rfl (by decide) atM0 rfl rfl ?_
    refine y_ishl (q := 45) rfl rfl ?_
    refine y_ge (q := 107) (q' := 48) rfl rfl rfl rfl rfl (fun c8 => ?_) (fun c9 => ?_)
    · skip
      refine y_iconst (x := 0) (q := 49) rfl (by decide) rfl ?_
      refine y_istore (lo' := [some (.ref 0), some (.int v1), some (.int v2), some (.int v3), some (.int v4), some (.int v5), some (.int 0)]) (q := 51) rfl (Nat.le_of_ble_eq_true rfl) rfl rfl ?_
      refine lz_X7_split_51 hd v1 v2 v3 v4 v5  _ (fun z14 g15 => ?_) fuel0 0 h 
      refine y_aload_n (q := 81) rfl rfl rfl ?_
      refine y_iload_n (q := 82) rfl rfl rfl ?_
      refine y_callI (I := .invokevirtual 425) (idx := 425) (KD := 1) (J := 217) (mj := mj207) (as := [.ref 0, .int v1]) (r := []) (q := 85) rfl (fun _ _ _ _ _ _ => rfl) rfl (by decide) rfl rfl rfl rfl rfl (Nat.le_of_ble_eq_true rfl) (d_recv atM0 (by decide) (by decide)) rfl (m_X7_friendsBehind (Nat.le_trans (by decide) hd) v1 g15) (fun r16 g17 => ?_)
      refine y_istore (lo' := [some (.ref 0), some (.int v1), some (.int v2), some (.int v3), some (.int v4), some (.int v5), some (.int r16)]) (q := 87) rfl (Nat.le_of_ble_eq_true rfl) rfl rfl ?_
      refine y_iload (q := 89) rfl rfl rfl ?_
      refine y_iload (q := 91) rfl rfl rfl ?_
      refine y_le (q := 101) (q' := 94) rfl rfl rfl rfl rfl (fun c18 => ?_) (fun c19 => ?_)
      · skip
        refine y_iload (q := 96) rfl rfl rfl ?_
        refine y_istore_n (lo' := [some (.ref 0), some (.int v1), some (.int v2), some (.int v5), some (.int v4), some (.int v5), some (.int r16)]) (q := 97) rfl (Nat.le_of_ble_eq_true rfl) rfl rfl ?_
        refine y_iload (q := 99) rfl rfl rfl ?_
        refine y_istore (lo' := [some (.ref 0), some (.int v1), some (.int v2), some (.int v5), some (.int r16), some (.int v5), some (.int r16)]) (q := 101) rfl (Nat.le_of_ble_eq_true rfl) rfl rfl ?_
        refine y_iinc (z := (v5 + 1)) (lo' := [some (.ref 0), some (.int v1), some (.int v2), some (.int v5), some (.int r16), some (.int (v5 + 1)), some (.int r16)]) (q := 104) rfl rfl (Nat.le_of_ble_eq_true rfl) (by rw [oi_1]) rfl rfl ?_
        refine y_goto (q := 37) rfl rfl ?_
        exact lz_X7_split_37 hd v1 v2 k hk n v5 r16 (v5 + 1) g17 (some (.int r16))
      · skip
        refine y_iinc (z := (v5 + 1)) (lo' := [some (.ref 0), some (.int v1), some (.int v2), some (.int v3), some (.int v4), some (.int (v5 + 1)), some (.int r16)]) (q := 104) rfl rfl (Nat.le_of_ble_eq_true rfl) (by rw [oi_1]) rfl rfl ?_
        refine y_goto (q := 37) rfl rfl ?_
        exact lz_X7_split_37 hd v1 v2 k hk n v3 v4 (v5 + 1) g17 (some (.int r16))
    · skip
      exact hk v3 v4 v5 (z6) h
def f_X7_split (v1 : Int32) (v2 : Int32) (h : dH) : Option (Int32 × dH) := oP (f_X7_in (v1.toInt64) 0 2) (fun r1 => if r1.toInt = 0 then (some ((-2), h)) else (oP (f_X7_in (v2.toInt64) 0 1) (fun r4 => if r4.toInt = 0 then (some ((-2), h)) else (oV (f_X7_clears  h) (fun g7 => l_X7_split_37 v1  (fun v3_20 v4_21 g24 => oV (f_X7_sitsAgain  g24) (fun g25 => if v2.toInt = 0 then (some (v3_20, g25)) else (some (v4_21, g25)))) fuel0 0 (-1) 0 g7)))))
theorem m_X7_split {d : Nat} (hd : 48 ≤ d) (v1 : Int32) (v2 : Int32) (h : dH) : dX shM d 213 [.ref 0, .int v1, .int v2] dI (f_X7_split v1 v2 h) h := by
  obtain ⟨e, rfl⟩ : ∃ e, d = e + 1 := ⟨d - 1, by omega⟩
  have hd : 47 ≤ e := by omega
  refine dX_of (mj := mj213) (lo := [some (.ref 0), some (.int v1), some (.int v2), none, none, none, none]) rfl (Nat.le_of_ble_eq_true rfl) rfl ?_
  unfold f_X7_split
  refine y_iload_n (q := 1) rfl rfl rfl ?_
  refine y_i2l (q := 2) rfl rfl ?_
  refine y_lconst (u := 0) (q := 3) rfl (by decide) rfl ?_
  refine y_ldc2_w (u := 2) (q := 6) rfl rfl rfl ?_
  refine y_callP (I := .invokestatic 91) (idx := 91) (KD := 0) (J := 128) (mj := mj118) (as := [.long v1.toInt64, .long 0, .long 2]) (r := []) (q := 9) rfl (fun _ _ _ _ _ _ => rfl) rfl (by decide) rfl rfl rfl rfl rfl (Nat.le_of_ble_eq_true rfl) rfl rfl (m_X7_in (Nat.le_trans (by decide) hd) (v1.toInt64) 0 2 h) (fun r1 => ?_)
  refine y_eq0 (q := 22) (q' := 12) rfl rfl rfl rfl (fun c2 => ?_) (fun c3 => ?_)
  · skip
    refine y_bipush (x := (-2)) (q := 24) rfl (by decide) rfl ?_
    exact y_retI rfl (by decide) rfl rfl
  · skip
    refine y_iload_n (q := 13) rfl rfl rfl ?_
    refine y_i2l (q := 14) rfl rfl ?_
    refine y_lconst (u := 0) (q := 15) rfl (by decide) rfl ?_
    refine y_lconst (u := 1) (q := 16) rfl (by decide) rfl ?_
    refine y_callP (I := .invokestatic 91) (idx := 91) (KD := 0) (J := 128) (mj := mj118) (as := [.long v2.toInt64, .long 0, .long 1]) (r := []) (q := 19) rfl (fun _ _ _ _ _ _ => rfl) rfl (by decide) rfl rfl rfl rfl rfl (Nat.le_of_ble_eq_true rfl) rfl rfl (m_X7_in (Nat.le_trans (by decide) hd) (v2.toInt64) 0 1 h) (fun r4 => ?_)
    refine y_ne0 (q := 25) (q' := 22) rfl rfl rfl rfl (fun c5 => ?_) (fun c6 => ?_)
    · skip
      refine y_bipush (x := (-2)) (q := 24) rfl (by decide) rfl ?_
      exact y_retI rfl (by decide) rfl rfl
    · skip
      refine y_aload_n (q := 26) rfl rfl rfl ?_
      refine y_callV (I := .invokevirtual 430) (idx := 430) (KD := 1) (J := 221) (mj := mj211) (as := [.ref 0]) (r := []) (q := 29) rfl (fun _ _ _ _ _ _ => rfl) rfl (by decide) rfl rfl rfl rfl rfl (Nat.le_of_ble_eq_true rfl) (d_recv atM0 (by decide) (by decide)) rfl (m_X7_clears (Nat.le_trans (by decide) hd)  h) (fun g7 => ?_)
      refine y_iconst (x := 0) (q := 30) rfl (by decide) rfl ?_
      refine y_istore_n (lo' := [some (.ref 0), some (.int v1), some (.int v2), some (.int 0), none, none, none]) (q := 31) rfl (Nat.le_of_ble_eq_true rfl) rfl rfl ?_
      refine y_iconst (x := (-1)) (q := 32) rfl (by decide) rfl ?_
      refine y_istore (lo' := [some (.ref 0), some (.int v1), some (.int v2), some (.int 0), some (.int (-1)), none, none]) (q := 34) rfl (Nat.le_of_ble_eq_true rfl) rfl rfl ?_
      refine y_iconst (x := 0) (q := 35) rfl (by decide) rfl ?_
      refine y_istore (lo' := [some (.ref 0), some (.int v1), some (.int v2), some (.int 0), some (.int (-1)), some (.int 0), none]) (q := 37) rfl (Nat.le_of_ble_eq_true rfl) rfl rfl ?_
      refine lz_X7_split_37 hd v1 v2  _ (fun v3_20 v4_21 z22 z23 g24 => ?_) fuel0 0 (-1) 0 g7 (none)
      refine y_aload_n (q := 108) rfl rfl rfl ?_
      refine y_callV (I := .invokevirtual 433) (idx := 433) (KD := 1) (J := 222) (mj := mj212) (as := [.ref 0]) (r := []) (q := 111) rfl (fun _ _ _ _ _ _ => rfl) rfl (by decide) rfl rfl rfl rfl rfl (Nat.le_of_ble_eq_true rfl) (d_recv atM0 (by decide) (by decide)) rfl (m_X7_sitsAgain (Nat.le_trans (by decide) hd)  g24) (fun g25 => ?_)
      refine y_iload_n (q := 112) rfl rfl rfl ?_
      refine y_ne0 (q := 119) (q' := 115) rfl rfl rfl rfl (fun c26 => ?_) (fun c27 => ?_)
      · skip
        refine y_iload_n (q := 116) rfl rfl rfl ?_
        refine y_goto (q := 121) rfl rfl ?_
        exact y_retI rfl (by decide) rfl rfl
      · skip
        refine y_iload (q := 121) rfl rfl rfl ?_
        exact y_retI rfl (by decide) rfl rfl
def l_X7_missed_20  (k : Int32 → Int32 → dH → Option (Int32 × dH)) : Nat → Int32 → Int32 → Int32 → dH → Option (Int32 × dH)
  | 0, _, _, _, _ => none
  | n + 1, v2, v3, v4, h => if v4.toInt < (h 0 13).toInt then (oH (dU h 0 31 v4) (fun g6 => oV (f_X7_waysAll  g6) (fun g7 => oP (f_X7_companies  g7) (fun r8 => oH (dU g7 0 31 (-1)) (fun g9 => if v3.toInt < r8.toInt then (l_X7_missed_20  k n v4 r8 (v4 + 1) g9) else (l_X7_missed_20  k n v2 v3 (v4 + 1) g9)))))) else (k v2 v3 h)
theorem lz_X7_missed_20 {d : Nat} (hd : 3 ≤ d) (v1 : Int32) (k : Int32 → Int32 → dH → Option (Int32 × dH)) (hk : ∀ (v2 : Int32) (v3 : Int32) (w4 : Int32) (z5 : Option Value) (h : dH), dY shM d mj214 dI (k v2 v3 h) 68 [some (.ref 0), some (.int v1), some (.int v2), some (.int v3), some (.int w4), z5] [] h) : ∀ (n : Nat) (v2 : Int32) (v3 : Int32) (v4 : Int32) (h : dH) (z5 : Option Value), dY shM d mj214 dI (l_X7_missed_20  k n v2 v3 v4 h) 20 [some (.ref 0), some (.int v1), some (.int v2), some (.int v3), some (.int v4), z5] [] h
  | 0, _, _, _, _, _ => dY_none
  | n + 1, v2, v3, v4, h, z5 => by
    rw [l_X7_missed_20]
    refine y_iload (q := 22) rfl rfl rfl ?_
    refine y_aload_n (q := 23) rfl rfl rfl ?_
    refine y_getI (q := 26) rfl rfl (by decide) atM0 rfl rfl ?_
    refine y_ge (q := 68) (q' := 29) rfl rfl rfl rfl rfl (fun c4 => ?_) (fun c5 => ?_)
    · skip
      refine y_aload_n (q := 30) rfl rfl rfl ?_
      refine y_iload (q := 32) rfl rfl rfl ?_
      refine y_putI (q := 35) rfl rfl (by decide) atM0 rfl rfl rfl rfl (fun g6 => ?_)
      refine y_aload_n (q := 36) rfl rfl rfl ?_
      refine y_callV (I := .invokevirtual 385) (idx := 385) (KD := 1) (J := 204) (mj := mj194) (as := [.ref 0]) (r := []) (q := 39) rfl (fun _ _ _ _ _ _ => rfl) rfl (by decide) rfl rfl rfl rfl rfl (Nat.le_of_ble_eq_true rfl) (d_recv atM0 (by decide) (by decide)) rfl (m_X7_waysAll (Nat.le_trans (by decide) hd)  g6) (fun g7 => ?_)
      refine y_aload_n (q := 40) rfl rfl rfl ?_
      refine y_callP (I := .invokevirtual 388) (idx := 388) (KD := 1) (J := 205) (mj := mj195) (as := [.ref 0]) (r := []) (q := 43) rfl (fun _ _ _ _ _ _ => rfl) rfl (by decide) rfl rfl rfl rfl rfl (Nat.le_of_ble_eq_true rfl) (d_recv atM0 (by decide) (by decide)) rfl (m_X7_companies (Nat.le_trans (by decide) hd)  g7) (fun r8 => ?_)
      refine y_istore (lo' := [some (.ref 0), some (.int v1), some (.int v2), some (.int v3), some (.int v4), some (.int r8)]) (q := 45) rfl (Nat.le_of_ble_eq_true rfl) rfl rfl ?_
      refine y_aload_n (q := 46) rfl rfl rfl ?_
      refine y_iconst (x := (-1)) (q := 47) rfl (by decide) rfl ?_
      refine y_putI (q := 50) rfl rfl (by decide) atM0 rfl rfl rfl rfl (fun g9 => ?_)
      refine y_iload (q := 52) rfl rfl rfl ?_
      refine y_iload_n (q := 53) rfl rfl rfl ?_
      refine y_le (q := 62) (q' := 56) rfl rfl rfl rfl rfl (fun c10 => ?_) (fun c11 => ?_)
      · skip
        refine y_iload (q := 58) rfl rfl rfl ?_
        refine y_istore_n (lo' := [some (.ref 0), some (.int v1), some (.int v4), some (.int v3), some (.int v4), some (.int r8)]) (q := 59) rfl (Nat.le_of_ble_eq_true rfl) rfl rfl ?_
        refine y_iload (q := 61) rfl rfl rfl ?_
        refine y_istore_n (lo' := [some (.ref 0), some (.int v1), some (.int v4), some (.int r8), some (.int v4), some (.int r8)]) (q := 62) rfl (Nat.le_of_ble_eq_true rfl) rfl rfl ?_
        refine y_iinc (z := (v4 + 1)) (lo' := [some (.ref 0), some (.int v1), some (.int v4), some (.int r8), some (.int (v4 + 1)), some (.int r8)]) (q := 65) rfl rfl (Nat.le_of_ble_eq_true rfl) (by rw [oi_1]) rfl rfl ?_
        refine y_goto (q := 20) rfl rfl ?_
        exact lz_X7_missed_20 hd v1 k hk n v4 r8 (v4 + 1) g9 (some (.int r8))
      · skip
        refine y_iinc (z := (v4 + 1)) (lo' := [some (.ref 0), some (.int v1), some (.int v2), some (.int v3), some (.int (v4 + 1)), some (.int r8)]) (q := 65) rfl rfl (Nat.le_of_ble_eq_true rfl) (by rw [oi_1]) rfl rfl ?_
        refine y_goto (q := 20) rfl rfl ?_
        exact lz_X7_missed_20 hd v1 k hk n v2 v3 (v4 + 1) g9 (some (.int r8))
    · skip
      exact hk v2 v3 v4 (z5) h
def f_X7_missed (v1 : Int32) (h : dH) : Option (Int32 × dH) := oP (f_X7_in (v1.toInt64) 0 1) (fun r1 => if r1.toInt = 0 then (some ((-2), h)) else (l_X7_missed_20   (fun v2_12 v3_13 g16 => if v1.toInt = 0 then (some (v2_12, g16)) else (some (v3_13, g16))) fuel0 (-1) (-1) 0 h))
theorem m_X7_missed {d : Nat} (hd : 4 ≤ d) (v1 : Int32) (h : dH) : dX shM d 214 [.ref 0, .int v1] dI (f_X7_missed v1 h) h := by
  obtain ⟨e, rfl⟩ : ∃ e, d = e + 1 := ⟨d - 1, by omega⟩
  have hd : 3 ≤ e := by omega
  refine dX_of (mj := mj214) (lo := [some (.ref 0), some (.int v1), none, none, none, none]) rfl (Nat.le_of_ble_eq_true rfl) rfl ?_
  unfold f_X7_missed
  refine y_iload_n (q := 1) rfl rfl rfl ?_
  refine y_i2l (q := 2) rfl rfl ?_
  refine y_lconst (u := 0) (q := 3) rfl (by decide) rfl ?_
  refine y_lconst (u := 1) (q := 4) rfl (by decide) rfl ?_
  refine y_callP (I := .invokestatic 91) (idx := 91) (KD := 0) (J := 128) (mj := mj118) (as := [.long v1.toInt64, .long 0, .long 1]) (r := []) (q := 7) rfl (fun _ _ _ _ _ _ => rfl) rfl (by decide) rfl rfl rfl rfl rfl (Nat.le_of_ble_eq_true rfl) rfl rfl (m_X7_in (Nat.le_trans (by decide) hd) (v1.toInt64) 0 1 h) (fun r1 => ?_)
  refine y_ne0 (q := 13) (q' := 10) rfl rfl rfl rfl (fun c2 => ?_) (fun c3 => ?_)
  · skip
    refine y_bipush (x := (-2)) (q := 12) rfl (by decide) rfl ?_
    exact y_retI rfl (by decide) rfl rfl
  · skip
    refine y_iconst (x := (-1)) (q := 14) rfl (by decide) rfl ?_
    refine y_istore_n (lo' := [some (.ref 0), some (.int v1), some (.int (-1)), none, none, none]) (q := 15) rfl (Nat.le_of_ble_eq_true rfl) rfl rfl ?_
    refine y_iconst (x := (-1)) (q := 16) rfl (by decide) rfl ?_
    refine y_istore_n (lo' := [some (.ref 0), some (.int v1), some (.int (-1)), some (.int (-1)), none, none]) (q := 17) rfl (Nat.le_of_ble_eq_true rfl) rfl rfl ?_
    refine y_iconst (x := 0) (q := 18) rfl (by decide) rfl ?_
    refine y_istore (lo' := [some (.ref 0), some (.int v1), some (.int (-1)), some (.int (-1)), some (.int 0), none]) (q := 20) rfl (Nat.le_of_ble_eq_true rfl) rfl rfl ?_
    refine lz_X7_missed_20 hd v1  _ (fun v2_12 v3_13 z14 z15 g16 => ?_) fuel0 (-1) (-1) 0 h (none)
    refine y_iload_n (q := 69) rfl rfl rfl ?_
    refine y_ne0 (q := 76) (q' := 72) rfl rfl rfl rfl (fun c17 => ?_) (fun c18 => ?_)
    · skip
      refine y_iload_n (q := 73) rfl rfl rfl ?_
      refine y_goto (q := 77) rfl rfl ?_
      exact y_retI rfl (by decide) rfl rfl
    · skip
      refine y_iload_n (q := 77) rfl rfl rfl ?_
      exact y_retI rfl (by decide) rfl rfl
def l_X7_match_44 (v4 : Int32) (k : Int32 → Int32 → dH → Option (Int32 × dH)) : Nat → Int32 → Int32 → Int32 → dH → Option (Int32 × dH)
  | 0, _, _, _, _ => none
  | n + 1, v2, v3, v5, h => if v5.toInt < (h 0 13).toInt then (oP (f_X7_knows v4 v5 h) (fun r10 => if r10.toInt = 0 then (oH (dU h 0 29 v4) (fun g13 => oH (dU g13 0 30 v5) (fun g14 => oV (f_X7_waysAll  g14) (fun g15 => oH (dU g15 0 29 (-1)) (fun g16 => oH (dU g16 0 30 (-1)) (fun g17 => oP (f_X7_longest 9 g17) (fun r18 => if r18.toInt < v3.toInt then (l_X7_match_44 v4 k n ((10 * v4) + v5) r18 (v5 + 1) g17) else (l_X7_match_44 v4 k n v2 v3 (v5 + 1) g17)))))))) else (l_X7_match_44 v4 k n v2 v3 (v5 + 1) h))) else (k v2 v3 h)
theorem lz_X7_match_44 {d : Nat} (hd : 3 ≤ d) (v1 : Int32) (v4 : Int32) (k : Int32 → Int32 → dH → Option (Int32 × dH)) (hk : ∀ (v2 : Int32) (v3 : Int32) (w5 : Int32) (z6 : Option Value) (h : dH), dY shM d mj215 dI (k v2 v3 h) 122 [some (.ref 0), some (.int v1), some (.int v2), some (.int v3), some (.int v4), some (.int w5), z6] [] h) : ∀ (n : Nat) (v2 : Int32) (v3 : Int32) (v5 : Int32) (h : dH) (z6 : Option Value), dY shM d mj215 dI (l_X7_match_44 v4 k n v2 v3 v5 h) 44 [some (.ref 0), some (.int v1), some (.int v2), some (.int v3), some (.int v4), some (.int v5), z6] [] h
  | 0, _, _, _, _, _ => dY_none
  | n + 1, v2, v3, v5, h, z6 => by
    rw [l_X7_match_44]
    refine y_iload (q := 46) rfl rfl rfl ?_
    refine y_aload_n (q := 47) rfl rfl rfl ?_
    refine y_getI (q := 50) rfl rfl (by decide) atM0 rfl rfl ?_
    refine y_ge (q := 122) (q' := 53) rfl rfl rfl rfl rfl (fun c8 => ?_) (fun c9 => ?_)
    · skip
      refine y_aload_n (q := 54) rfl rfl rfl ?_
      refine y_iload (q := 56) rfl rfl rfl ?_
      refine y_iload (q := 58) rfl rfl rfl ?_
      refine y_callP (I := .invokevirtual 155) (idx := 155) (KD := 1) (J := 202) (mj := mj192) (as := [.ref 0, .int v4, .int v5]) (r := []) (q := 61) rfl (fun _ _ _ _ _ _ => rfl) rfl (by decide) rfl rfl rfl rfl rfl (Nat.le_of_ble_eq_true rfl) (d_recv atM0 (by decide) (by decide)) rfl (m_X7_knows (Nat.le_trans (by decide) hd) v4 v5 h) (fun r10 => ?_)
      refine y_ne0 (q := 116) (q' := 64) rfl rfl rfl rfl (fun c11 => ?_) (fun c12 => ?_)
      · skip
        refine y_aload_n (q := 65) rfl rfl rfl ?_
        refine y_iload (q := 67) rfl rfl rfl ?_
        refine y_putI (q := 70) rfl rfl (by decide) atM0 rfl rfl rfl rfl (fun g13 => ?_)
        refine y_aload_n (q := 71) rfl rfl rfl ?_
        refine y_iload (q := 73) rfl rfl rfl ?_
        refine y_putI (q := 76) rfl rfl (by decide) atM0 rfl rfl rfl rfl (fun g14 => ?_)
        refine y_aload_n (q := 77) rfl rfl rfl ?_
        refine y_callV (I := .invokevirtual 385) (idx := 385) (KD := 1) (J := 204) (mj := mj194) (as := [.ref 0]) (r := []) (q := 80) rfl (fun _ _ _ _ _ _ => rfl) rfl (by decide) rfl rfl rfl rfl rfl (Nat.le_of_ble_eq_true rfl) (d_recv atM0 (by decide) (by decide)) rfl (m_X7_waysAll (Nat.le_trans (by decide) hd)  g14) (fun g15 => ?_)
        refine y_aload_n (q := 81) rfl rfl rfl ?_
        refine y_iconst (x := (-1)) (q := 82) rfl (by decide) rfl ?_
        refine y_putI (q := 85) rfl rfl (by decide) atM0 rfl rfl rfl rfl (fun g16 => ?_)
        refine y_aload_n (q := 86) rfl rfl rfl ?_
        refine y_iconst (x := (-1)) (q := 87) rfl (by decide) rfl ?_
        refine y_putI (q := 90) rfl rfl (by decide) atM0 rfl rfl rfl rfl (fun g17 => ?_)
        refine y_aload_n (q := 91) rfl rfl rfl ?_
        refine y_bipush (x := 9) (q := 93) rfl (by decide) rfl ?_
        refine y_callP (I := .invokevirtual 397) (idx := 397) (KD := 1) (J := 207) (mj := mj197) (as := [.ref 0, .int 9]) (r := []) (q := 96) rfl (fun _ _ _ _ _ _ => rfl) rfl (by decide) rfl rfl rfl rfl rfl (Nat.le_of_ble_eq_true rfl) (d_recv atM0 (by decide) (by decide)) rfl (m_X7_longest (Nat.le_trans (by decide) hd) 9 g17) (fun r18 => ?_)
        refine y_istore (lo' := [some (.ref 0), some (.int v1), some (.int v2), some (.int v3), some (.int v4), some (.int v5), some (.int r18)]) (q := 98) rfl (Nat.le_of_ble_eq_true rfl) rfl rfl ?_
        refine y_iload (q := 100) rfl rfl rfl ?_
        refine y_iload_n (q := 101) rfl rfl rfl ?_
        refine y_ge (q := 116) (q' := 104) rfl rfl rfl rfl rfl (fun c19 => ?_) (fun c20 => ?_)
        · skip
          refine y_bipush (x := 10) (q := 106) rfl (by decide) rfl ?_
          refine y_iload (q := 108) rfl rfl rfl ?_
          refine y_imul (q := 109) rfl rfl ?_
          refine y_iload (q := 111) rfl rfl rfl ?_
          refine y_iadd (q := 112) rfl rfl ?_
          refine y_istore_n (lo' := [some (.ref 0), some (.int v1), some (.int ((10 * v4) + v5)), some (.int v3), some (.int v4), some (.int v5), some (.int r18)]) (q := 113) rfl (Nat.le_of_ble_eq_true rfl) rfl rfl ?_
          refine y_iload (q := 115) rfl rfl rfl ?_
          refine y_istore_n (lo' := [some (.ref 0), some (.int v1), some (.int ((10 * v4) + v5)), some (.int r18), some (.int v4), some (.int v5), some (.int r18)]) (q := 116) rfl (Nat.le_of_ble_eq_true rfl) rfl rfl ?_
          refine y_iinc (z := (v5 + 1)) (lo' := [some (.ref 0), some (.int v1), some (.int ((10 * v4) + v5)), some (.int r18), some (.int v4), some (.int (v5 + 1)), some (.int r18)]) (q := 119) rfl rfl (Nat.le_of_ble_eq_true rfl) (by rw [oi_1]) rfl rfl ?_
          refine y_goto (q := 44) rfl rfl ?_
          exact lz_X7_match_44 hd v1 v4 k hk n ((10 * v4) + v5) r18 (v5 + 1) g17 (some (.int r18))
        · skip
          refine y_iinc (z := (v5 + 1)) (lo' := [some (.ref 0), some (.int v1), some (.int v2), some (.int v3), some (.int v4), some (.int (v5 + 1)), some (.int r18)]) (q := 119) rfl rfl (Nat.le_of_ble_eq_true rfl) (by rw [oi_1]) rfl rfl ?_
          refine y_goto (q := 44) rfl rfl ?_
          exact lz_X7_match_44 hd v1 v4 k hk n v2 v3 (v5 + 1) g17 (some (.int r18))
      · skip
        refine y_iinc (z := (v5 + 1)) (lo' := [some (.ref 0), some (.int v1), some (.int v2), some (.int v3), some (.int v4), some (.int (v5 + 1)), z6]) (q := 119) rfl rfl (Nat.le_of_ble_eq_true rfl) (by rw [oi_1]) rfl rfl ?_
        refine y_goto (q := 44) rfl rfl ?_
        exact lz_X7_match_44 hd v1 v4 k hk n v2 v3 (v5 + 1) h (z6)
    · skip
      exact hk v2 v3 v5 (z6) h
def l_X7_match_29  (k : Int32 → Int32 → dH → Option (Int32 × dH)) : Nat → Int32 → Int32 → Int32 → dH → Option (Int32 × dH)
  | 0, _, _, _, _ => none
  | n + 1, v2, v3, v4, h => if v4.toInt < (h 0 13).toInt then (l_X7_match_44 v4  (fun v2_21 v3_22 g25 => l_X7_match_29  k n v2_21 v3_22 (v4 + 1) g25) fuel0 v2 v3 (v4 + 1) h) else (k v2 v3 h)
theorem lz_X7_match_29 {d : Nat} (hd : 3 ≤ d) (v1 : Int32) (k : Int32 → Int32 → dH → Option (Int32 × dH)) (hk : ∀ (v2 : Int32) (v3 : Int32) (w4 : Int32) (z5 : Option Value) (z6 : Option Value) (h : dH), dY shM d mj215 dI (k v2 v3 h) 128 [some (.ref 0), some (.int v1), some (.int v2), some (.int v3), some (.int w4), z5, z6] [] h) : ∀ (n : Nat) (v2 : Int32) (v3 : Int32) (v4 : Int32) (h : dH) (z5 : Option Value) (z6 : Option Value), dY shM d mj215 dI (l_X7_match_29  k n v2 v3 v4 h) 29 [some (.ref 0), some (.int v1), some (.int v2), some (.int v3), some (.int v4), z5, z6] [] h
  | 0, _, _, _, _, _, _ => dY_none
  | n + 1, v2, v3, v4, h, z5, z6 => by
    rw [l_X7_match_29]
    refine y_iload (q := 31) rfl rfl rfl ?_
    refine y_aload_n (q := 32) rfl rfl rfl ?_
    refine y_getI (q := 35) rfl rfl (by decide) atM0 rfl rfl ?_
    refine y_ge (q := 128) (q' := 38) rfl rfl rfl rfl rfl (fun c6 => ?_) (fun c7 => ?_)
    · skip
      refine y_iload (q := 40) rfl rfl rfl ?_
      refine y_iconst (x := 1) (q := 41) rfl (by decide) rfl ?_
      refine y_iadd (q := 42) rfl rfl ?_
      refine y_istore (lo' := [some (.ref 0), some (.int v1), some (.int v2), some (.int v3), some (.int v4), some (.int (v4 + 1)), z6]) (q := 44) rfl (Nat.le_of_ble_eq_true rfl) rfl rfl ?_
      refine lz_X7_match_44 hd v1 v4  _ (fun v2_21 v3_22 z23 z24 g25 => ?_) fuel0 v2 v3 (v4 + 1) h (z6)
      refine y_iinc (z := (v4 + 1)) (lo' := [some (.ref 0), some (.int v1), some (.int v2_21), some (.int v3_22), some (.int (v4 + 1)), some (.int z23), z24]) (q := 125) rfl rfl (Nat.le_of_ble_eq_true rfl) (by rw [oi_1]) rfl rfl ?_
      refine y_goto (q := 29) rfl rfl ?_
      exact lz_X7_match_29 hd v1 k hk n v2_21 v3_22 (v4 + 1) g25 (some (.int z23)) (z24)
    · skip
      exact hk v2 v3 v4 (z5) (z6) h
def f_X7_match (v1 : Int32) (h : dH) : Option (Int32 × dH) := oP (f_X7_in (v1.toInt64) 0 1) (fun r1 => if r1.toInt = 0 then (some ((-2), h)) else (oV (f_X7_waysAll  h) (fun g4 => oP (f_X7_longest 9 g4) (fun r5 => l_X7_match_29   (fun v2_26 v3_27 g31 => if v1.toInt = 0 then (some (v2_26, g31)) else (some (v3_27, g31))) fuel0 (-1) r5 0 g4))))
theorem m_X7_match {d : Nat} (hd : 4 ≤ d) (v1 : Int32) (h : dH) : dX shM d 215 [.ref 0, .int v1] dI (f_X7_match v1 h) h := by
  obtain ⟨e, rfl⟩ : ∃ e, d = e + 1 := ⟨d - 1, by omega⟩
  have hd : 3 ≤ e := by omega
  refine dX_of (mj := mj215) (lo := [some (.ref 0), some (.int v1), none, none, none, none, none]) rfl (Nat.le_of_ble_eq_true rfl) rfl ?_
  unfold f_X7_match
  refine y_iload_n (q := 1) rfl rfl rfl ?_
  refine y_i2l (q := 2) rfl rfl ?_
  refine y_lconst (u := 0) (q := 3) rfl (by decide) rfl ?_
  refine y_lconst (u := 1) (q := 4) rfl (by decide) rfl ?_
  refine y_callP (I := .invokestatic 91) (idx := 91) (KD := 0) (J := 128) (mj := mj118) (as := [.long v1.toInt64, .long 0, .long 1]) (r := []) (q := 7) rfl (fun _ _ _ _ _ _ => rfl) rfl (by decide) rfl rfl rfl rfl rfl (Nat.le_of_ble_eq_true rfl) rfl rfl (m_X7_in (Nat.le_trans (by decide) hd) (v1.toInt64) 0 1 h) (fun r1 => ?_)
  refine y_ne0 (q := 13) (q' := 10) rfl rfl rfl rfl (fun c2 => ?_) (fun c3 => ?_)
  · skip
    refine y_bipush (x := (-2)) (q := 12) rfl (by decide) rfl ?_
    exact y_retI rfl (by decide) rfl rfl
  · skip
    refine y_aload_n (q := 14) rfl rfl rfl ?_
    refine y_callV (I := .invokevirtual 385) (idx := 385) (KD := 1) (J := 204) (mj := mj194) (as := [.ref 0]) (r := []) (q := 17) rfl (fun _ _ _ _ _ _ => rfl) rfl (by decide) rfl rfl rfl rfl rfl (Nat.le_of_ble_eq_true rfl) (d_recv atM0 (by decide) (by decide)) rfl (m_X7_waysAll (Nat.le_trans (by decide) hd)  h) (fun g4 => ?_)
    refine y_iconst (x := (-1)) (q := 18) rfl (by decide) rfl ?_
    refine y_istore_n (lo' := [some (.ref 0), some (.int v1), some (.int (-1)), none, none, none, none]) (q := 19) rfl (Nat.le_of_ble_eq_true rfl) rfl rfl ?_
    refine y_aload_n (q := 20) rfl rfl rfl ?_
    refine y_bipush (x := 9) (q := 22) rfl (by decide) rfl ?_
    refine y_callP (I := .invokevirtual 397) (idx := 397) (KD := 1) (J := 207) (mj := mj197) (as := [.ref 0, .int 9]) (r := []) (q := 25) rfl (fun _ _ _ _ _ _ => rfl) rfl (by decide) rfl rfl rfl rfl rfl (Nat.le_of_ble_eq_true rfl) (d_recv atM0 (by decide) (by decide)) rfl (m_X7_longest (Nat.le_trans (by decide) hd) 9 g4) (fun r5 => ?_)
    refine y_istore_n (lo' := [some (.ref 0), some (.int v1), some (.int (-1)), some (.int r5), none, none, none]) (q := 26) rfl (Nat.le_of_ble_eq_true rfl) rfl rfl ?_
    refine y_iconst (x := 0) (q := 27) rfl (by decide) rfl ?_
    refine y_istore (lo' := [some (.ref 0), some (.int v1), some (.int (-1)), some (.int r5), some (.int 0), none, none]) (q := 29) rfl (Nat.le_of_ble_eq_true rfl) rfl rfl ?_
    refine lz_X7_match_29 hd v1  _ (fun v2_26 v3_27 z28 z29 z30 g31 => ?_) fuel0 (-1) r5 0 g4 (none) (none)
    refine y_iload_n (q := 129) rfl rfl rfl ?_
    refine y_ne0 (q := 136) (q' := 132) rfl rfl rfl rfl (fun c32 => ?_) (fun c33 => ?_)
    · skip
      refine y_iload_n (q := 133) rfl rfl rfl ?_
      refine y_goto (q := 137) rfl rfl ?_
      exact y_retI rfl (by decide) rfl rfl
    · skip
      refine y_iload_n (q := 137) rfl rfl rfl ?_
      exact y_retI rfl (by decide) rfl rfl
def l_X7_unlike_13 (v1 : Int32) (v2 : Int32) (h : dH) (k : Int32 → Option (Int32 × dH)) : Nat → Int32 → Int32 → Option (Int32 × dH)
  | 0, _, _ => none
  | n + 1, v3, v4 => if v4.toInt < (h 0 13).toInt then (oP (f_X7_strengthOf v2 v4 h) (fun r5 => if 0 ≤ ((40 * v1) + v4).toInt ∧ ((40 * v1) + v4).toInt < 160 then (if r5.toInt = (h 17 (((40 * v1) + v4).toInt.toNat)).toInt then (l_X7_unlike_13 v1 v2 h k n (v3 ||| (dshl 0 v4)) (v4 + 1) ) else (l_X7_unlike_13 v1 v2 h k n (v3 ||| (dshl 1 v4)) (v4 + 1) )) else none)) else (k v3 )
theorem lz_X7_unlike_13 {d : Nat} (hd : 45 ≤ d) (v1 : Int32) (v2 : Int32) (h : dH) (k : Int32 → Option (Int32 × dH)) (hk : ∀ (v3 : Int32) (w4 : Int32), dY shM d mj216 dI (k v3) 61 [some (.ref 0), some (.int v1), some (.int v2), some (.int v3), some (.int w4)] [] h) : ∀ (n : Nat) (v3 : Int32) (v4 : Int32), dY shM d mj216 dI (l_X7_unlike_13 v1 v2 h k n v3 v4) 13 [some (.ref 0), some (.int v1), some (.int v2), some (.int v3), some (.int v4)] [] h
  | 0, _, _ => dY_none
  | n + 1, v3, v4 => by
    rw [l_X7_unlike_13]
    refine y_iload (q := 15) rfl rfl rfl ?_
    refine y_aload_n (q := 16) rfl rfl rfl ?_
    refine y_getI (q := 19) rfl rfl (by decide) atM0 rfl rfl ?_
    refine y_ge (q := 61) (q' := 22) rfl rfl rfl rfl rfl (fun c3 => ?_) (fun c4 => ?_)
    · skip
      refine y_iload_n (q := 23) rfl rfl rfl ?_
      refine y_aload_n (q := 24) rfl rfl rfl ?_
      refine y_iload_n (q := 25) rfl rfl rfl ?_
      refine y_iload (q := 27) rfl rfl rfl ?_
      refine y_callP (I := .invokevirtual 139) (idx := 139) (KD := 1) (J := 136) (mj := mj126) (as := [.ref 0, .int v2, .int v4]) (r := [.int v3]) (q := 30) rfl (fun _ _ _ _ _ _ => rfl) rfl (by decide) rfl rfl rfl rfl rfl (Nat.le_of_ble_eq_true rfl) (d_recv atM0 (by decide) (by decide)) rfl (m_X7_strengthOf (Nat.le_trans (by decide) hd) v2 v4 h) (fun r5 => ?_)
      refine y_aload_n (q := 31) rfl rfl rfl ?_
      refine y_getR (b := 17) (q := 34) rfl rfl (by decide) atM0 rfl rfl ?_
      refine y_bipush (x := 40) (q := 36) rfl (by decide) rfl ?_
      refine y_iload_n (q := 37) rfl rfl rfl ?_
      refine y_imul (q := 38) rfl rfl ?_
      refine y_iload (q := 40) rfl rfl rfl ?_
      refine y_iadd (q := 41) rfl rfl ?_
      refine y_guard (fun c6 => ?_)
      refine y_iald (n := 160) (N := 160) (X := ((40 * v1) + v4).toInt) (K := ((40 * v1) + v4).toInt.toNat) (q := 42) hbM rfl atM17 rfl rfl c6 rfl rfl ?_
      refine y_ne (q := 49) (q' := 45) rfl rfl rfl rfl rfl (fun c7 => ?_) (fun c8 => ?_)
      · skip
        refine y_iconst (x := 0) (q := 46) rfl (by decide) rfl ?_
        refine y_goto (q := 50) rfl rfl ?_
        refine y_iload (q := 52) rfl rfl rfl ?_
        refine y_ishl (q := 53) rfl rfl ?_
        refine y_ior (q := 54) rfl rfl ?_
        refine y_istore_n (lo' := [some (.ref 0), some (.int v1), some (.int v2), some (.int (v3 ||| (dshl 0 v4))), some (.int v4)]) (q := 55) rfl (Nat.le_of_ble_eq_true rfl) rfl rfl ?_
        refine y_iinc (z := (v4 + 1)) (lo' := [some (.ref 0), some (.int v1), some (.int v2), some (.int (v3 ||| (dshl 0 v4))), some (.int (v4 + 1))]) (q := 58) rfl rfl (Nat.le_of_ble_eq_true rfl) (by rw [oi_1]) rfl rfl ?_
        refine y_goto (q := 13) rfl rfl ?_
        exact lz_X7_unlike_13 hd v1 v2 h k hk n (v3 ||| (dshl 0 v4)) (v4 + 1)  
      · skip
        refine y_iconst (x := 1) (q := 50) rfl (by decide) rfl ?_
        refine y_iload (q := 52) rfl rfl rfl ?_
        refine y_ishl (q := 53) rfl rfl ?_
        refine y_ior (q := 54) rfl rfl ?_
        refine y_istore_n (lo' := [some (.ref 0), some (.int v1), some (.int v2), some (.int (v3 ||| (dshl 1 v4))), some (.int v4)]) (q := 55) rfl (Nat.le_of_ble_eq_true rfl) rfl rfl ?_
        refine y_iinc (z := (v4 + 1)) (lo' := [some (.ref 0), some (.int v1), some (.int v2), some (.int (v3 ||| (dshl 1 v4))), some (.int (v4 + 1))]) (q := 58) rfl rfl (Nat.le_of_ble_eq_true rfl) (by rw [oi_1]) rfl rfl ?_
        refine y_goto (q := 13) rfl rfl ?_
        exact lz_X7_unlike_13 hd v1 v2 h k hk n (v3 ||| (dshl 1 v4)) (v4 + 1)  
    · skip
      exact hk v3 v4 
def f_X7_unlike (v1 : Int32) (v2 : Int32) (h : dH) : Option (Int32 × dH) := oV (f_X7_laysAside  h) (fun g1 => oV (f_X7_feasts  g1) (fun g2 => l_X7_unlike_13 v1 v2 g2 (fun v3_9 => oV (f_X7_laysBack  g2) (fun g11 => some (v3_9, g11))) fuel0 0 0 ))
theorem m_X7_unlike {d : Nat} (hd : 46 ≤ d) (v1 : Int32) (v2 : Int32) (h : dH) : dX shM d 216 [.ref 0, .int v1, .int v2] dI (f_X7_unlike v1 v2 h) h := by
  obtain ⟨e, rfl⟩ : ∃ e, d = e + 1 := ⟨d - 1, by omega⟩
  have hd : 45 ≤ e := by omega
  refine dX_of (mj := mj216) (lo := [some (.ref 0), some (.int v1), some (.int v2), none, none]) rfl (Nat.le_of_ble_eq_true rfl) rfl ?_
  unfold f_X7_unlike
  refine y_aload_n (q := 1) rfl rfl rfl ?_
  refine y_callV (I := .invokevirtual 413) (idx := 413) (KD := 1) (J := 213) (mj := mj203) (as := [.ref 0]) (r := []) (q := 4) rfl (fun _ _ _ _ _ _ => rfl) rfl (by decide) rfl rfl rfl rfl rfl (Nat.le_of_ble_eq_true rfl) (d_recv atM0 (by decide) (by decide)) rfl (m_X7_laysAside (Nat.le_trans (by decide) hd)  h) (fun g1 => ?_)
  refine y_aload_n (q := 5) rfl rfl rfl ?_
  refine y_callV (I := .invokevirtual 376) (idx := 376) (KD := 1) (J := 198) (mj := mj188) (as := [.ref 0]) (r := []) (q := 8) rfl (fun _ _ _ _ _ _ => rfl) rfl (by decide) rfl rfl rfl rfl rfl (Nat.le_of_ble_eq_true rfl) (d_recv atM0 (by decide) (by decide)) rfl (m_X7_feasts (Nat.le_trans (by decide) hd)  g1) (fun g2 => ?_)
  refine y_iconst (x := 0) (q := 9) rfl (by decide) rfl ?_
  refine y_istore_n (lo' := [some (.ref 0), some (.int v1), some (.int v2), some (.int 0), none]) (q := 10) rfl (Nat.le_of_ble_eq_true rfl) rfl rfl ?_
  refine y_iconst (x := 0) (q := 11) rfl (by decide) rfl ?_
  refine y_istore (lo' := [some (.ref 0), some (.int v1), some (.int v2), some (.int 0), some (.int 0)]) (q := 13) rfl (Nat.le_of_ble_eq_true rfl) rfl rfl ?_
  refine lz_X7_unlike_13 hd v1 v2 g2 _ (fun v3_9 z10 => ?_) fuel0 0 0  
  refine y_aload_n (q := 62) rfl rfl rfl ?_
  refine y_callV (I := .invokevirtual 420) (idx := 420) (KD := 1) (J := 214) (mj := mj204) (as := [.ref 0]) (r := []) (q := 65) rfl (fun _ _ _ _ _ _ => rfl) rfl (by decide) rfl rfl rfl rfl rfl (Nat.le_of_ble_eq_true rfl) (d_recv atM0 (by decide) (by decide)) rfl (m_X7_laysBack (Nat.le_trans (by decide) hd)  g2) (fun g11 => ?_)
  refine y_iload_n (q := 66) rfl rfl rfl ?_
  exact y_retI rfl (by decide) rfl rfl
def l_X7_limitsBy_31 (v1 : Int32) (v2 : Int32) (h : dH) (k : Int32 → Option (Int32 × dH)) : Nat → Int32 → Int32 → Option (Int32 × dH)
  | 0, _, _ => none
  | n + 1, v7, v8 => if v8.toInt < (h 0 13).toInt then (if v7.toInt = 0 then (l_X7_limitsBy_31 v1 v2 h k n 0 (v8 + 1) ) else (if v8.toInt = v2.toInt then (l_X7_limitsBy_31 v1 v2 h k n 1 (v8 + 1) ) else (oP (f_X7_knows v2 v8 h) (fun r10 => if 0 ≤ ((40 * v1) + v8).toInt ∧ ((40 * v1) + v8).toInt < 160 then (if (h 17 (((40 * v1) + v8).toInt.toNat)).toInt < 20 then (if r10.toInt = 0 then (l_X7_limitsBy_31 v1 v2 h k n 1 (v8 + 1) ) else (l_X7_limitsBy_31 v1 v2 h k n 0 (v8 + 1) )) else (if r10.toInt = 1 then (l_X7_limitsBy_31 v1 v2 h k n 1 (v8 + 1) ) else (l_X7_limitsBy_31 v1 v2 h k n 0 (v8 + 1) ))) else none)))) else (k v7 )
theorem lz_X7_limitsBy_31 {d : Nat} (hd : 2 ≤ d) (v1 : Int32) (v2 : Int32) (v3 : Int32) (v4 : Int32) (v5 : Int32) (v6 : Int32) (h : dH) (k : Int32 → Option (Int32 × dH)) (hk : ∀ (v7 : Int32) (w8 : Int32), dY shM d mj217 dI (k v7) 96 [some (.ref 0), some (.int v1), some (.int v2), some (.int v3), some (.int v4), some (.int v5), some (.int v6), some (.int v7), some (.int w8)] [] h) : ∀ (n : Nat) (v7 : Int32) (v8 : Int32), dY shM d mj217 dI (l_X7_limitsBy_31 v1 v2 h k n v7 v8) 31 [some (.ref 0), some (.int v1), some (.int v2), some (.int v3), some (.int v4), some (.int v5), some (.int v6), some (.int v7), some (.int v8)] [] h
  | 0, _, _ => dY_none
  | n + 1, v7, v8 => by
    rw [l_X7_limitsBy_31]
    refine y_iload (q := 33) rfl rfl rfl ?_
    refine y_aload_n (q := 34) rfl rfl rfl ?_
    refine y_getI (q := 37) rfl rfl (by decide) atM0 rfl rfl ?_
    refine y_ge (q := 96) (q' := 40) rfl rfl rfl rfl rfl (fun c4 => ?_) (fun c5 => ?_)
    · skip
      refine y_iload (q := 42) rfl rfl rfl ?_
      refine y_eq0 (q := 87) (q' := 45) rfl rfl rfl rfl (fun c6 => ?_) (fun c7 => ?_)
      · skip
        refine y_iconst (x := 0) (q := 88) rfl (by decide) rfl ?_
        refine y_istore (lo' := [some (.ref 0), some (.int v1), some (.int v2), some (.int v3), some (.int v4), some (.int v5), some (.int v6), some (.int 0), some (.int v8)]) (q := 90) rfl (Nat.le_of_ble_eq_true rfl) rfl rfl ?_
        refine y_iinc (z := (v8 + 1)) (lo' := [some (.ref 0), some (.int v1), some (.int v2), some (.int v3), some (.int v4), some (.int v5), some (.int v6), some (.int 0), some (.int (v8 + 1))]) (q := 93) rfl rfl (Nat.le_of_ble_eq_true rfl) (by rw [oi_1]) rfl rfl ?_
        refine y_goto (q := 31) rfl rfl ?_
        exact lz_X7_limitsBy_31 hd v1 v2 v3 v4 v5 v6 h k hk n 0 (v8 + 1)  
      · skip
        refine y_iload (q := 47) rfl rfl rfl ?_
        refine y_iload_n (q := 48) rfl rfl rfl ?_
        refine y_eq (q := 83) (q' := 51) rfl rfl rfl rfl rfl (fun c8 => ?_) (fun c9 => ?_)
        · skip
          refine y_iconst (x := 1) (q := 84) rfl (by decide) rfl ?_
          refine y_goto (q := 88) rfl rfl ?_
          refine y_istore (lo' := [some (.ref 0), some (.int v1), some (.int v2), some (.int v3), some (.int v4), some (.int v5), some (.int v6), some (.int 1), some (.int v8)]) (q := 90) rfl (Nat.le_of_ble_eq_true rfl) rfl rfl ?_
          refine y_iinc (z := (v8 + 1)) (lo' := [some (.ref 0), some (.int v1), some (.int v2), some (.int v3), some (.int v4), some (.int v5), some (.int v6), some (.int 1), some (.int (v8 + 1))]) (q := 93) rfl rfl (Nat.le_of_ble_eq_true rfl) (by rw [oi_1]) rfl rfl ?_
          refine y_goto (q := 31) rfl rfl ?_
          exact lz_X7_limitsBy_31 hd v1 v2 v3 v4 v5 v6 h k hk n 1 (v8 + 1)  
        · skip
          refine y_aload_n (q := 52) rfl rfl rfl ?_
          refine y_iload_n (q := 53) rfl rfl rfl ?_
          refine y_iload (q := 55) rfl rfl rfl ?_
          refine y_callP (I := .invokevirtual 155) (idx := 155) (KD := 1) (J := 202) (mj := mj192) (as := [.ref 0, .int v2, .int v8]) (r := []) (q := 58) rfl (fun _ _ _ _ _ _ => rfl) rfl (by decide) rfl rfl rfl rfl rfl (Nat.le_of_ble_eq_true rfl) (d_recv atM0 (by decide) (by decide)) rfl (m_X7_knows (Nat.le_trans (by decide) hd) v2 v8 h) (fun r10 => ?_)
          refine y_aload_n (q := 59) rfl rfl rfl ?_
          refine y_getR (b := 17) (q := 62) rfl rfl (by decide) atM0 rfl rfl ?_
          refine y_bipush (x := 40) (q := 64) rfl (by decide) rfl ?_
          refine y_iload_n (q := 65) rfl rfl rfl ?_
          refine y_imul (q := 66) rfl rfl ?_
          refine y_iload (q := 68) rfl rfl rfl ?_
          refine y_iadd (q := 69) rfl rfl ?_
          refine y_guard (fun c11 => ?_)
          refine y_iald (n := 160) (N := 160) (X := ((40 * v1) + v8).toInt) (K := ((40 * v1) + v8).toInt.toNat) (q := 70) hbM rfl atM17 rfl rfl c11 rfl rfl ?_
          refine y_bipush (x := 20) (q := 72) rfl (by decide) rfl ?_
          refine y_lt (q := 79) (q' := 75) rfl rfl (by decide) rfl rfl (fun c12 => ?_) (fun c13 => ?_)
          · skip
            refine y_iconst (x := 0) (q := 80) rfl (by decide) rfl ?_
            refine y_ne (q := 87) (q' := 83) rfl rfl (by decide) rfl rfl (fun c14 => ?_) (fun c15 => ?_)
            · skip
              refine y_iconst (x := 1) (q := 84) rfl (by decide) rfl ?_
              refine y_goto (q := 88) rfl rfl ?_
              refine y_istore (lo' := [some (.ref 0), some (.int v1), some (.int v2), some (.int v3), some (.int v4), some (.int v5), some (.int v6), some (.int 1), some (.int v8)]) (q := 90) rfl (Nat.le_of_ble_eq_true rfl) rfl rfl ?_
              refine y_iinc (z := (v8 + 1)) (lo' := [some (.ref 0), some (.int v1), some (.int v2), some (.int v3), some (.int v4), some (.int v5), some (.int v6), some (.int 1), some (.int (v8 + 1))]) (q := 93) rfl rfl (Nat.le_of_ble_eq_true rfl) (by rw [oi_1]) rfl rfl ?_
              refine y_goto (q := 31) rfl rfl ?_
              exact lz_X7_limitsBy_31 hd v1 v2 v3 v4 v5 v6 h k hk n 1 (v8 + 1)  
            · skip
              refine y_iconst (x := 0) (q := 88) rfl (by decide) rfl ?_
              refine y_istore (lo' := [some (.ref 0), some (.int v1), some (.int v2), some (.int v3), some (.int v4), some (.int v5), some (.int v6), some (.int 0), some (.int v8)]) (q := 90) rfl (Nat.le_of_ble_eq_true rfl) rfl rfl ?_
              refine y_iinc (z := (v8 + 1)) (lo' := [some (.ref 0), some (.int v1), some (.int v2), some (.int v3), some (.int v4), some (.int v5), some (.int v6), some (.int 0), some (.int (v8 + 1))]) (q := 93) rfl rfl (Nat.le_of_ble_eq_true rfl) (by rw [oi_1]) rfl rfl ?_
              refine y_goto (q := 31) rfl rfl ?_
              exact lz_X7_limitsBy_31 hd v1 v2 v3 v4 v5 v6 h k hk n 0 (v8 + 1)  
          · skip
            refine y_iconst (x := 1) (q := 76) rfl (by decide) rfl ?_
            refine y_goto (q := 80) rfl rfl ?_
            refine y_ne (q := 87) (q' := 83) rfl rfl (by decide) rfl rfl (fun c16 => ?_) (fun c17 => ?_)
            · skip
              refine y_iconst (x := 1) (q := 84) rfl (by decide) rfl ?_
              refine y_goto (q := 88) rfl rfl ?_
              refine y_istore (lo' := [some (.ref 0), some (.int v1), some (.int v2), some (.int v3), some (.int v4), some (.int v5), some (.int v6), some (.int 1), some (.int v8)]) (q := 90) rfl (Nat.le_of_ble_eq_true rfl) rfl rfl ?_
              refine y_iinc (z := (v8 + 1)) (lo' := [some (.ref 0), some (.int v1), some (.int v2), some (.int v3), some (.int v4), some (.int v5), some (.int v6), some (.int 1), some (.int (v8 + 1))]) (q := 93) rfl rfl (Nat.le_of_ble_eq_true rfl) (by rw [oi_1]) rfl rfl ?_
              refine y_goto (q := 31) rfl rfl ?_
              exact lz_X7_limitsBy_31 hd v1 v2 v3 v4 v5 v6 h k hk n 1 (v8 + 1)  
            · skip
              refine y_iconst (x := 0) (q := 88) rfl (by decide) rfl ?_
              refine y_istore (lo' := [some (.ref 0), some (.int v1), some (.int v2), some (.int v3), some (.int v4), some (.int v5), some (.int v6), some (.int 0), some (.int v8)]) (q := 90) rfl (Nat.le_of_ble_eq_true rfl) rfl rfl ?_
              refine y_iinc (z := (v8 + 1)) (lo' := [some (.ref 0), some (.int v1), some (.int v2), some (.int v3), some (.int v4), some (.int v5), some (.int v6), some (.int 0), some (.int (v8 + 1))]) (q := 93) rfl rfl (Nat.le_of_ble_eq_true rfl) (by rw [oi_1]) rfl rfl ?_
              refine y_goto (q := 31) rfl rfl ?_
              exact lz_X7_limitsBy_31 hd v1 v2 v3 v4 v5 v6 h k hk n 0 (v8 + 1)  
    · skip
      exact hk v7 v8 
def l_X7_limitsBy_18 (v1 : Int32) (v2 : Int32) (k : Int32 → Int32 → dH → Option (Int32 × dH)) : Nat → Int32 → Int32 → dH → Option (Int32 × dH)
  | 0, _, _, _ => none
  | n + 1, v5, v6, h => if 0 < (h 0 8).toInt then (l_X7_limitsBy_31 v1 v2 h (fun v7_18 => if v7_18.toInt = 0 then (if v7_18.toInt = 0 then (oH (dU h 0 8 ((h 0 8) - 1)) (fun g24 => l_X7_limitsBy_18 v1 v2 k n (v5 + 0) v6 g24)) else (oH (dU h 0 8 ((h 0 8) - 1)) (fun g25 => l_X7_limitsBy_18 v1 v2 k n (v5 + 0) (h 0 8) g25))) else (if v7_18.toInt = 0 then (oH (dU h 0 8 ((h 0 8) - 1)) (fun g28 => l_X7_limitsBy_18 v1 v2 k n (v5 + 1) v6 g28)) else (oH (dU h 0 8 ((h 0 8) - 1)) (fun g29 => l_X7_limitsBy_18 v1 v2 k n (v5 + 1) (h 0 8) g29)))) fuel0 1 0 ) else (k v5 v6 h)
theorem lz_X7_limitsBy_18 {d : Nat} (hd : 2 ≤ d) (v1 : Int32) (v2 : Int32) (v3 : Int32) (v4 : Int32) (k : Int32 → Int32 → dH → Option (Int32 × dH)) (hk : ∀ (v5 : Int32) (v6 : Int32) (z7 : Option Value) (z8 : Option Value) (h : dH), dY shM d mj217 dI (k v5 v6 h) 140 [some (.ref 0), some (.int v1), some (.int v2), some (.int v3), some (.int v4), some (.int v5), some (.int v6), z7, z8] [] h) : ∀ (n : Nat) (v5 : Int32) (v6 : Int32) (h : dH) (z7 : Option Value) (z8 : Option Value), dY shM d mj217 dI (l_X7_limitsBy_18 v1 v2 k n v5 v6 h) 18 [some (.ref 0), some (.int v1), some (.int v2), some (.int v3), some (.int v4), some (.int v5), some (.int v6), z7, z8] [] h
  | 0, _, _, _, _, _ => dY_none
  | n + 1, v5, v6, h, z7, z8 => by
    rw [l_X7_limitsBy_18]
    refine y_aload_n (q := 19) rfl rfl rfl ?_
    refine y_getI (q := 22) rfl rfl (by decide) atM0 rfl rfl ?_
    refine y_le0 (q := 140) (q' := 25) rfl rfl rfl rfl (fun c2 => ?_) (fun c3 => ?_)
    · skip
      refine y_iconst (x := 1) (q := 26) rfl (by decide) rfl ?_
      refine y_istore (lo' := [some (.ref 0), some (.int v1), some (.int v2), some (.int v3), some (.int v4), some (.int v5), some (.int v6), some (.int 1), z8]) (q := 28) rfl (Nat.le_of_ble_eq_true rfl) rfl rfl ?_
      refine y_iconst (x := 0) (q := 29) rfl (by decide) rfl ?_
      refine y_istore (lo' := [some (.ref 0), some (.int v1), some (.int v2), some (.int v3), some (.int v4), some (.int v5), some (.int v6), some (.int 1), some (.int 0)]) (q := 31) rfl (Nat.le_of_ble_eq_true rfl) rfl rfl ?_
      refine lz_X7_limitsBy_31 hd v1 v2 v3 v4 v5 v6 h _ (fun v7_18 z19 => ?_) fuel0 1 0  
      refine y_iload (q := 98) rfl rfl rfl ?_
      refine y_iload (q := 100) rfl rfl rfl ?_
      refine y_eq0 (q := 107) (q' := 103) rfl rfl rfl rfl (fun c20 => ?_) (fun c21 => ?_)
      · skip
        refine y_iconst (x := 0) (q := 108) rfl (by decide) rfl ?_
        refine y_iadd (q := 109) rfl rfl ?_
        refine y_istore (lo' := [some (.ref 0), some (.int v1), some (.int v2), some (.int v3), some (.int v4), some (.int (v5 + 0)), some (.int v6), some (.int v7_18), some (.int z19)]) (q := 111) rfl (Nat.le_of_ble_eq_true rfl) rfl rfl ?_
        refine y_iload (q := 113) rfl rfl rfl ?_
        refine y_eq0 (q := 123) (q' := 116) rfl rfl rfl rfl (fun c22 => ?_) (fun c23 => ?_)
        · skip
          refine y_iload (q := 125) rfl rfl rfl ?_
          refine y_istore (lo' := [some (.ref 0), some (.int v1), some (.int v2), some (.int v3), some (.int v4), some (.int (v5 + 0)), some (.int v6), some (.int v7_18), some (.int z19)]) (q := 127) rfl (Nat.le_of_ble_eq_true rfl) rfl rfl ?_
          refine y_aload_n (q := 128) rfl rfl rfl ?_
          refine y_dup (q := 129) rfl rfl ?_
          refine y_getI (q := 132) rfl rfl (by decide) atM0 rfl rfl ?_
          refine y_iconst (x := 1) (q := 133) rfl (by decide) rfl ?_
          refine y_isub (q := 134) rfl rfl ?_
          refine y_putI (q := 137) rfl rfl (by decide) atM0 rfl rfl rfl rfl (fun g24 => ?_)
          refine y_goto (q := 18) rfl rfl ?_
          exact lz_X7_limitsBy_18 hd v1 v2 v3 v4 k hk n (v5 + 0) v6 g24 (some (.int v7_18)) (some (.int z19))
        · skip
          refine y_aload_n (q := 117) rfl rfl rfl ?_
          refine y_getI (q := 120) rfl rfl (by decide) atM0 rfl rfl ?_
          refine y_goto (q := 125) rfl rfl ?_
          refine y_istore (lo' := [some (.ref 0), some (.int v1), some (.int v2), some (.int v3), some (.int v4), some (.int (v5 + 0)), some (.int (h 0 8)), some (.int v7_18), some (.int z19)]) (q := 127) rfl (Nat.le_of_ble_eq_true rfl) rfl rfl ?_
          refine y_aload_n (q := 128) rfl rfl rfl ?_
          refine y_dup (q := 129) rfl rfl ?_
          refine y_getI (q := 132) rfl rfl (by decide) atM0 rfl rfl ?_
          refine y_iconst (x := 1) (q := 133) rfl (by decide) rfl ?_
          refine y_isub (q := 134) rfl rfl ?_
          refine y_putI (q := 137) rfl rfl (by decide) atM0 rfl rfl rfl rfl (fun g25 => ?_)
          refine y_goto (q := 18) rfl rfl ?_
          exact lz_X7_limitsBy_18 hd v1 v2 v3 v4 k hk n (v5 + 0) (h 0 8) g25 (some (.int v7_18)) (some (.int z19))
      · skip
        refine y_iconst (x := 1) (q := 104) rfl (by decide) rfl ?_
        refine y_goto (q := 108) rfl rfl ?_
        refine y_iadd (q := 109) rfl rfl ?_
        refine y_istore (lo' := [some (.ref 0), some (.int v1), some (.int v2), some (.int v3), some (.int v4), some (.int (v5 + 1)), some (.int v6), some (.int v7_18), some (.int z19)]) (q := 111) rfl (Nat.le_of_ble_eq_true rfl) rfl rfl ?_
        refine y_iload (q := 113) rfl rfl rfl ?_
        refine y_eq0 (q := 123) (q' := 116) rfl rfl rfl rfl (fun c26 => ?_) (fun c27 => ?_)
        · skip
          refine y_iload (q := 125) rfl rfl rfl ?_
          refine y_istore (lo' := [some (.ref 0), some (.int v1), some (.int v2), some (.int v3), some (.int v4), some (.int (v5 + 1)), some (.int v6), some (.int v7_18), some (.int z19)]) (q := 127) rfl (Nat.le_of_ble_eq_true rfl) rfl rfl ?_
          refine y_aload_n (q := 128) rfl rfl rfl ?_
          refine y_dup (q := 129) rfl rfl ?_
          refine y_getI (q := 132) rfl rfl (by decide) atM0 rfl rfl ?_
          refine y_iconst (x := 1) (q := 133) rfl (by decide) rfl ?_
          refine y_isub (q := 134) rfl rfl ?_
          refine y_putI (q := 137) rfl rfl (by decide) atM0 rfl rfl rfl rfl (fun g28 => ?_)
          refine y_goto (q := 18) rfl rfl ?_
          exact lz_X7_limitsBy_18 hd v1 v2 v3 v4 k hk n (v5 + 1) v6 g28 (some (.int v7_18)) (some (.int z19))
        · skip
          refine y_aload_n (q := 117) rfl rfl rfl ?_
          refine y_getI (q := 120) rfl rfl (by decide) atM0 rfl rfl ?_
          refine y_goto (q := 125) rfl rfl ?_
          refine y_istore (lo' := [some (.ref 0), some (.int v1), some (.int v2), some (.int v3), some (.int v4), some (.int (v5 + 1)), some (.int (h 0 8)), some (.int v7_18), some (.int z19)]) (q := 127) rfl (Nat.le_of_ble_eq_true rfl) rfl rfl ?_
          refine y_aload_n (q := 128) rfl rfl rfl ?_
          refine y_dup (q := 129) rfl rfl ?_
          refine y_getI (q := 132) rfl rfl (by decide) atM0 rfl rfl ?_
          refine y_iconst (x := 1) (q := 133) rfl (by decide) rfl ?_
          refine y_isub (q := 134) rfl rfl ?_
          refine y_putI (q := 137) rfl rfl (by decide) atM0 rfl rfl rfl rfl (fun g29 => ?_)
          refine y_goto (q := 18) rfl rfl ?_
          exact lz_X7_limitsBy_18 hd v1 v2 v3 v4 k hk n (v5 + 1) (h 0 8) g29 (some (.int v7_18)) (some (.int z19))
    · skip
      exact hk v5 v6 (z7) (z8) h
def f_X7_limitsBy (v1 : Int32) (v2 : Int32) (v3 : Int32) (h : dH) : Option (Int32 × dH) := oH (dU h 0 8 99) (fun g1 => l_X7_limitsBy_18 v1 v2  (fun v5_30 v6_31 g34 => oH (dU g34 0 8 (h 0 8)) (fun g35 => if v3.toInt = 0 then (some (v6_31, g35)) else (some (v5_30, g35)))) fuel0 0 (-1) g1)
theorem m_X7_limitsBy {d : Nat} (hd : 3 ≤ d) (v1 : Int32) (v2 : Int32) (v3 : Int32) (h : dH) : dX shM d 217 [.ref 0, .int v1, .int v2, .int v3] dI (f_X7_limitsBy v1 v2 v3 h) h := by
  obtain ⟨e, rfl⟩ : ∃ e, d = e + 1 := ⟨d - 1, by omega⟩
  have hd : 2 ≤ e := by omega
  refine dX_of (mj := mj217) (lo := [some (.ref 0), some (.int v1), some (.int v2), some (.int v3), none, none, none, none, none]) rfl (Nat.le_of_ble_eq_true rfl) rfl ?_
  unfold f_X7_limitsBy
  refine y_aload_n (q := 1) rfl rfl rfl ?_
  refine y_getI (q := 4) rfl rfl (by decide) atM0 rfl rfl ?_
  refine y_istore (lo' := [some (.ref 0), some (.int v1), some (.int v2), some (.int v3), some (.int (h 0 8)), none, none, none, none]) (q := 6) rfl (Nat.le_of_ble_eq_true rfl) rfl rfl ?_
  refine y_iconst (x := 0) (q := 7) rfl (by decide) rfl ?_
  refine y_istore (lo' := [some (.ref 0), some (.int v1), some (.int v2), some (.int v3), some (.int (h 0 8)), some (.int 0), none, none, none]) (q := 9) rfl (Nat.le_of_ble_eq_true rfl) rfl rfl ?_
  refine y_iconst (x := (-1)) (q := 10) rfl (by decide) rfl ?_
  refine y_istore (lo' := [some (.ref 0), some (.int v1), some (.int v2), some (.int v3), some (.int (h 0 8)), some (.int 0), some (.int (-1)), none, none]) (q := 12) rfl (Nat.le_of_ble_eq_true rfl) rfl rfl ?_
  refine y_aload_n (q := 13) rfl rfl rfl ?_
  refine y_bipush (x := 99) (q := 15) rfl (by decide) rfl ?_
  refine y_putI (q := 18) rfl rfl (by decide) atM0 rfl rfl rfl rfl (fun g1 => ?_)
  refine lz_X7_limitsBy_18 hd v1 v2 v3 (h 0 8)  _ (fun v5_30 v6_31 z32 z33 g34 => ?_) fuel0 0 (-1) g1 (none) (none)
  refine y_aload_n (q := 141) rfl rfl rfl ?_
  refine y_iload (q := 143) rfl rfl rfl ?_
  refine y_putI (q := 146) rfl rfl (by decide) atM0 rfl rfl rfl rfl (fun g35 => ?_)
  refine y_iload_n (q := 147) rfl rfl rfl ?_
  refine y_eq0 (q := 155) (q' := 150) rfl rfl rfl rfl (fun c36 => ?_) (fun c37 => ?_)
  · skip
    refine y_iload (q := 157) rfl rfl rfl ?_
    exact y_retI rfl (by decide) rfl rfl
  · skip
    refine y_iload (q := 152) rfl rfl rfl ?_
    refine y_goto (q := 157) rfl rfl ?_
    exact y_retI rfl (by decide) rfl rfl
def f_X7_isSheet (v0 : Int32) : Option (Int32) := oP (f_X7_in (v0.toInt64) 0 3) (fun r1 => if r1 = 0 ∨ r1 = 1 then (some r1) else none)
theorem m_X7_isSheet {d : Nat} (hd : 2 ≤ d) (v0 : Int32) (h : dH) : dX shM d 226 [.int v0] (dP h) (f_X7_isSheet v0) h := by
  obtain ⟨e, rfl⟩ : ∃ e, d = e + 1 := ⟨d - 1, by omega⟩
  have hd : 1 ≤ e := by omega
  refine dX_of (mj := mj226) (lo := [some (.int v0)]) rfl (Nat.le_of_ble_eq_true rfl) rfl ?_
  unfold f_X7_isSheet
  refine y_iload_n (q := 1) rfl rfl rfl ?_
  refine y_i2l (q := 2) rfl rfl ?_
  refine y_lconst (u := 0) (q := 3) rfl (by decide) rfl ?_
  refine y_ldc2_w (u := 3) (q := 6) rfl rfl rfl ?_
  refine y_callP (I := .invokestatic 91) (idx := 91) (KD := 0) (J := 128) (mj := mj118) (as := [.long v0.toInt64, .long 0, .long 3]) (r := []) (q := 9) rfl (fun _ _ _ _ _ _ => rfl) rfl (by decide) rfl rfl rfl rfl rfl (Nat.le_of_ble_eq_true rfl) rfl rfl (m_X7_in (Nat.le_trans (by decide) hd) (v0.toInt64) 0 3 h) (fun r1 => ?_)
  refine y_guard (fun c2 => ?_)
  exact y_retP rfl (by decide) rfl (d_bool c2)
def l_X7_tells_175 (v1 : Int32) (v2 : Int32) (v4 : Int32) (v6 : Int32) (k : Int32 → dH → Option (Int32 × dH)) : Nat → Int32 → Int32 → dH → Option (Int32 × dH)
  | 0, _, _, _ => none
  | n + 1, v7, v8, h => if v8.toInt < v6.toInt then (oV (f_X7_lays v4 v2 v8 h) (fun g36 => oI (f_X7_unlike v1 v2 g36) (fun r37 g38 => if r37.toInt = 0 then (l_X7_tells_175 v1 v2 v4 v6 k n (v7 ||| (dshl 1 v8)) (v8 + 1) g38) else (l_X7_tells_175 v1 v2 v4 v6 k n (v7 ||| (dshl 0 v8)) (v8 + 1) g38)))) else (k v7 h)
theorem lz_X7_tells_175 {d : Nat} (hd : 46 ≤ d) (v1 : Int32) (v2 : Int32) (v3 : Int32) (v4 : Int32) (v5 : Int32) (v6 : Int32) (k : Int32 → dH → Option (Int32 × dH)) (hk : ∀ (v7 : Int32) (w8 : Int32) (h : dH), dY shM d mj218 dI (k v7 h) 219 [some (.ref 0), some (.int v1), some (.int v2), some (.int v3), some (.int v4), some (.int v5), some (.int v6), some (.int v7), some (.int w8)] [] h) : ∀ (n : Nat) (v7 : Int32) (v8 : Int32) (h : dH), dY shM d mj218 dI (l_X7_tells_175 v1 v2 v4 v6 k n v7 v8 h) 175 [some (.ref 0), some (.int v1), some (.int v2), some (.int v3), some (.int v4), some (.int v5), some (.int v6), some (.int v7), some (.int v8)] [] h
  | 0, _, _, _ => dY_none
  | n + 1, v7, v8, h => by
    rw [l_X7_tells_175]
    refine y_iload (q := 177) rfl rfl rfl ?_
    refine y_iload (q := 179) rfl rfl rfl ?_
    refine y_ge (q := 219) (q' := 182) rfl rfl rfl rfl rfl (fun c34 => ?_) (fun c35 => ?_)
    · skip
      refine y_aload_n (q := 183) rfl rfl rfl ?_
      refine y_iload (q := 185) rfl rfl rfl ?_
      refine y_iload_n (q := 186) rfl rfl rfl ?_
      refine y_iload (q := 188) rfl rfl rfl ?_
      refine y_callV (I := .invokevirtual 117) (idx := 117) (KD := 1) (J := 135) (mj := mj125) (as := [.ref 0, .int v4, .int v2, .int v8]) (r := []) (q := 191) rfl (fun _ _ _ _ _ _ => rfl) rfl (by decide) rfl rfl rfl rfl rfl (Nat.le_of_ble_eq_true rfl) (d_recv atM0 (by decide) (by decide)) rfl (m_X7_lays (Nat.le_trans (by decide) hd) v4 v2 v8 h) (fun g36 => ?_)
      refine y_iload (q := 193) rfl rfl rfl ?_
      refine y_aload_n (q := 194) rfl rfl rfl ?_
      refine y_iload_n (q := 195) rfl rfl rfl ?_
      refine y_iload_n (q := 196) rfl rfl rfl ?_
      refine y_callI (I := .invokevirtual 441) (idx := 441) (KD := 1) (J := 226) (mj := mj216) (as := [.ref 0, .int v1, .int v2]) (r := [.int v7]) (q := 199) rfl (fun _ _ _ _ _ _ => rfl) rfl (by decide) rfl rfl rfl rfl rfl (Nat.le_of_ble_eq_true rfl) (d_recv atM0 (by decide) (by decide)) rfl (m_X7_unlike (Nat.le_trans (by decide) hd) v1 v2 g36) (fun r37 g38 => ?_)
      refine y_ne0 (q := 206) (q' := 202) rfl rfl rfl rfl (fun c39 => ?_) (fun c40 => ?_)
      · skip
        refine y_iconst (x := 1) (q := 203) rfl (by decide) rfl ?_
        refine y_goto (q := 207) rfl rfl ?_
        refine y_iload (q := 209) rfl rfl rfl ?_
        refine y_ishl (q := 210) rfl rfl ?_
        refine y_ior (q := 211) rfl rfl ?_
        refine y_istore (lo' := [some (.ref 0), some (.int v1), some (.int v2), some (.int v3), some (.int v4), some (.int v5), some (.int v6), some (.int (v7 ||| (dshl 1 v8))), some (.int v8)]) (q := 213) rfl (Nat.le_of_ble_eq_true rfl) rfl rfl ?_
        refine y_iinc (z := (v8 + 1)) (lo' := [some (.ref 0), some (.int v1), some (.int v2), some (.int v3), some (.int v4), some (.int v5), some (.int v6), some (.int (v7 ||| (dshl 1 v8))), some (.int (v8 + 1))]) (q := 216) rfl rfl (Nat.le_of_ble_eq_true rfl) (by rw [oi_1]) rfl rfl ?_
        refine y_goto (q := 175) rfl rfl ?_
        exact lz_X7_tells_175 hd v1 v2 v3 v4 v5 v6 k hk n (v7 ||| (dshl 1 v8)) (v8 + 1) g38 
      · skip
        refine y_iconst (x := 0) (q := 207) rfl (by decide) rfl ?_
        refine y_iload (q := 209) rfl rfl rfl ?_
        refine y_ishl (q := 210) rfl rfl ?_
        refine y_ior (q := 211) rfl rfl ?_
        refine y_istore (lo' := [some (.ref 0), some (.int v1), some (.int v2), some (.int v3), some (.int v4), some (.int v5), some (.int v6), some (.int (v7 ||| (dshl 0 v8))), some (.int v8)]) (q := 213) rfl (Nat.le_of_ble_eq_true rfl) rfl rfl ?_
        refine y_iinc (z := (v8 + 1)) (lo' := [some (.ref 0), some (.int v1), some (.int v2), some (.int v3), some (.int v4), some (.int v5), some (.int v6), some (.int (v7 ||| (dshl 0 v8))), some (.int (v8 + 1))]) (q := 216) rfl rfl (Nat.le_of_ble_eq_true rfl) (by rw [oi_1]) rfl rfl ?_
        refine y_goto (q := 175) rfl rfl ?_
        exact lz_X7_tells_175 hd v1 v2 v3 v4 v5 v6 k hk n (v7 ||| (dshl 0 v8)) (v8 + 1) g38 
    · skip
      exact hk v7 v8 h
def f_X7_tells (v1 : Int32) (v2 : Int32) (v3 : Int32) (h : dH) : Option (Int32 × dH) := oP (f_X7_isSheet v1) (fun r1 => if r1.toInt = 0 then (some ((-2), h)) else (oP (f_X7_isHouse v2 h) (fun r4 => if r4.toInt = 0 then (some ((-2), h)) else (oP (f_X7_in (v3.toInt64) 0 6) (fun r7 => if r7.toInt = 0 then (some ((-2), h)) else (if 0 ≤ v1.toInt ∧ v1.toInt < 4 then (if (h 14 (v1.toInt.toNat)).toInt = 0 then (some ((-11), h)) else (if 0 ≤ v1.toInt ∧ v1.toInt < 4 then (if (h 16 (v1.toInt.toNat)).toInt = (h 0 13).toInt then (if v3.toInt = 0 then (oI (f_X7_unlike v1 v2 h) (fun r18 g19 => some (r18, g19))) else (if 4 < v3.toInt then (if v3.toInt = 5 then (oI (f_X7_limitsBy v1 v2 1 h) (fun r24 g25 => some (r24, g25))) else (oI (f_X7_limitsBy v1 v2 0 h) (fun r26 g27 => some (r26, g27)))) else (if v3.toInt = 1 then (oI (f_X7_told v2 4 h) (fun r30 g31 => if v3.toInt = 1 then (l_X7_tells_175 v1 v2 4 6  (fun v7_41 g43 => oV (f_X7_lays 4 v2 r30 g43) (fun g44 => some (v7_41, g44))) fuel0 0 0 g31) else (if v3.toInt = 2 then (l_X7_tells_175 v1 v2 4 10  (fun v7_47 g49 => oV (f_X7_lays 4 v2 r30 g49) (fun g50 => some (v7_47, g50))) fuel0 0 0 g31) else (if v3.toInt = 3 then (l_X7_tells_175 v1 v2 4 4  (fun v7_53 g55 => oV (f_X7_lays 4 v2 r30 g55) (fun g56 => some (v7_53, g56))) fuel0 0 0 g31) else (l_X7_tells_175 v1 v2 4 (g31 0 3)  (fun v7_57 g59 => oV (f_X7_lays 4 v2 r30 g59) (fun g60 => some (v7_57, g60))) fuel0 0 0 g31))))) else (if v3.toInt = 4 then (if v3.toInt = 1 then (l_X7_tells_175 v1 v2 5 6  (fun v7_65 g67 => oV (f_X7_lays 5 v2 (h 0 4) g67) (fun g68 => some (v7_65, g68))) fuel0 0 0 h) else (if v3.toInt = 2 then (l_X7_tells_175 v1 v2 5 10  (fun v7_71 g73 => oV (f_X7_lays 5 v2 (h 0 4) g73) (fun g74 => some (v7_71, g74))) fuel0 0 0 h) else (if v3.toInt = 3 then (l_X7_tells_175 v1 v2 5 4  (fun v7_77 g79 => oV (f_X7_lays 5 v2 (h 0 4) g79) (fun g80 => some (v7_77, g80))) fuel0 0 0 h) else (l_X7_tells_175 v1 v2 5 (h 0 3)  (fun v7_81 g83 => oV (f_X7_lays 5 v2 (h 0 4) g83) (fun g84 => some (v7_81, g84))) fuel0 0 0 h)))) else (if v3.toInt = 5 then (if v3.toInt = 1 then (l_X7_tells_175 v1 v2 v3 6  (fun v7_89 g91 => oV (f_X7_lays v3 v2 (h 0 4) g91) (fun g92 => some (v7_89, g92))) fuel0 0 0 h) else (if v3.toInt = 2 then (l_X7_tells_175 v1 v2 v3 10  (fun v7_95 g97 => oV (f_X7_lays v3 v2 (h 0 4) g97) (fun g98 => some (v7_95, g98))) fuel0 0 0 h) else (if v3.toInt = 3 then (l_X7_tells_175 v1 v2 v3 4  (fun v7_101 g103 => oV (f_X7_lays v3 v2 (h 0 4) g103) (fun g104 => some (v7_101, g104))) fuel0 0 0 h) else (l_X7_tells_175 v1 v2 v3 (h 0 3)  (fun v7_105 g107 => oV (f_X7_lays v3 v2 (h 0 4) g107) (fun g108 => some (v7_105, g108))) fuel0 0 0 h)))) else (oI (f_X7_told v2 v3 h) (fun r109 g110 => if v3.toInt = 1 then (l_X7_tells_175 v1 v2 v3 6  (fun v7_113 g115 => oV (f_X7_lays v3 v2 r109 g115) (fun g116 => some (v7_113, g116))) fuel0 0 0 g110) else (if v3.toInt = 2 then (l_X7_tells_175 v1 v2 v3 10  (fun v7_119 g121 => oV (f_X7_lays v3 v2 r109 g121) (fun g122 => some (v7_119, g122))) fuel0 0 0 g110) else (if v3.toInt = 3 then (l_X7_tells_175 v1 v2 v3 4  (fun v7_125 g127 => oV (f_X7_lays v3 v2 r109 g127) (fun g128 => some (v7_125, g128))) fuel0 0 0 g110) else (l_X7_tells_175 v1 v2 v3 (g110 0 3)  (fun v7_129 g131 => oV (f_X7_lays v3 v2 r109 g131) (fun g132 => some (v7_129, g132))) fuel0 0 0 g110)))))))))) else (some ((-2), h))) else none)) else none))))))
theorem m_X7_tells {d : Nat} (hd : 47 ≤ d) (v1 : Int32) (v2 : Int32) (v3 : Int32) (h : dH) : dX shM d 218 [.ref 0, .int v1, .int v2, .int v3] dI (f_X7_tells v1 v2 v3 h) h := by
  obtain ⟨e, rfl⟩ : ∃ e, d = e + 1 := ⟨d - 1, by omega⟩
  have hd : 46 ≤ e := by omega
  refine dX_of (mj := mj218) (lo := [some (.ref 0), some (.int v1), some (.int v2), some (.int v3), none, none, none, none, none]) rfl (Nat.le_of_ble_eq_true rfl) rfl ?_
  unfold f_X7_tells
  refine y_iload_n (q := 1) rfl rfl rfl ?_
  refine y_callP (I := .invokestatic 436) (idx := 436) (KD := 0) (J := 236) (mj := mj226) (as := [.int v1]) (r := []) (q := 4) rfl (fun _ _ _ _ _ _ => rfl) rfl (by decide) rfl rfl rfl rfl rfl (Nat.le_of_ble_eq_true rfl) rfl rfl (m_X7_isSheet (Nat.le_trans (by decide) hd) v1 h) (fun r1 => ?_)
  refine y_eq0 (q := 27) (q' := 7) rfl rfl rfl rfl (fun c2 => ?_) (fun c3 => ?_)
  · skip
    refine y_bipush (x := (-2)) (q := 29) rfl (by decide) rfl ?_
    exact y_retI rfl (by decide) rfl rfl
  · skip
    refine y_aload_n (q := 8) rfl rfl rfl ?_
    refine y_iload_n (q := 9) rfl rfl rfl ?_
    refine y_callP (I := .invokevirtual 105) (idx := 105) (KD := 1) (J := 132) (mj := mj122) (as := [.ref 0, .int v2]) (r := []) (q := 12) rfl (fun _ _ _ _ _ _ => rfl) rfl (by decide) rfl rfl rfl rfl rfl (Nat.le_of_ble_eq_true rfl) (d_recv atM0 (by decide) (by decide)) rfl (m_X7_isHouse (Nat.le_trans (by decide) hd) v2 h) (fun r4 => ?_)
    refine y_eq0 (q := 27) (q' := 15) rfl rfl rfl rfl (fun c5 => ?_) (fun c6 => ?_)
    · skip
      refine y_bipush (x := (-2)) (q := 29) rfl (by decide) rfl ?_
      exact y_retI rfl (by decide) rfl rfl
    · skip
      refine y_iload_n (q := 16) rfl rfl rfl ?_
      refine y_i2l (q := 17) rfl rfl ?_
      refine y_lconst (u := 0) (q := 18) rfl (by decide) rfl ?_
      refine y_ldc2_w (u := 6) (q := 21) rfl rfl rfl ?_
      refine y_callP (I := .invokestatic 91) (idx := 91) (KD := 0) (J := 128) (mj := mj118) (as := [.long v3.toInt64, .long 0, .long 6]) (r := []) (q := 24) rfl (fun _ _ _ _ _ _ => rfl) rfl (by decide) rfl rfl rfl rfl rfl (Nat.le_of_ble_eq_true rfl) rfl rfl (m_X7_in (Nat.le_trans (by decide) hd) (v3.toInt64) 0 6 h) (fun r7 => ?_)
      refine y_ne0 (q := 30) (q' := 27) rfl rfl rfl rfl (fun c8 => ?_) (fun c9 => ?_)
      · skip
        refine y_bipush (x := (-2)) (q := 29) rfl (by decide) rfl ?_
        exact y_retI rfl (by decide) rfl rfl
      · skip
        refine y_aload_n (q := 31) rfl rfl rfl ?_
        refine y_getR (b := 14) (q := 34) rfl rfl (by decide) atM0 rfl rfl ?_
        refine y_iload_n (q := 35) rfl rfl rfl ?_
        refine y_guard (fun c10 => ?_)
        refine y_bald (n := 4) (N := 4) (X := v1.toInt) (K := v1.toInt.toNat) (q := 36) hbM rfl atM14 rfl rfl c10 rfl rfl ?_
        refine y_ne0 (q := 42) (q' := 39) rfl rfl rfl rfl (fun c11 => ?_) (fun c12 => ?_)
        · skip
          refine y_bipush (x := (-11)) (q := 41) rfl (by decide) rfl ?_
          exact y_retI rfl (by decide) rfl rfl
        · skip
          refine y_aload_n (q := 43) rfl rfl rfl ?_
          refine y_getR (b := 16) (q := 46) rfl rfl (by decide) atM0 rfl rfl ?_
          refine y_iload_n (q := 47) rfl rfl rfl ?_
          refine y_guard (fun c13 => ?_)
          refine y_iald (n := 4) (N := 4) (X := v1.toInt) (K := v1.toInt.toNat) (q := 48) hbM rfl atM16 rfl rfl c13 rfl rfl ?_
          refine y_aload_n (q := 49) rfl rfl rfl ?_
          refine y_getI (q := 52) rfl rfl (by decide) atM0 rfl rfl ?_
          refine y_eq (q := 58) (q' := 55) rfl rfl rfl rfl rfl (fun c14 => ?_) (fun c15 => ?_)
          · skip
            refine y_iload_n (q := 59) rfl rfl rfl ?_
            refine y_ne0 (q := 69) (q' := 62) rfl rfl rfl rfl (fun c16 => ?_) (fun c17 => ?_)
            · skip
              refine y_aload_n (q := 63) rfl rfl rfl ?_
              refine y_iload_n (q := 64) rfl rfl rfl ?_
              refine y_iload_n (q := 65) rfl rfl rfl ?_
              refine y_callI (I := .invokevirtual 441) (idx := 441) (KD := 1) (J := 226) (mj := mj216) (as := [.ref 0, .int v1, .int v2]) (r := []) (q := 68) rfl (fun _ _ _ _ _ _ => rfl) rfl (by decide) rfl rfl rfl rfl rfl (Nat.le_of_ble_eq_true rfl) (d_recv atM0 (by decide) (by decide)) rfl (m_X7_unlike (Nat.le_trans (by decide) hd) v1 v2 h) (fun r18 g19 => ?_)
              exact y_retI rfl (by decide) rfl rfl
            · skip
              refine y_iload_n (q := 70) rfl rfl rfl ?_
              refine y_iconst (x := 4) (q := 71) rfl (by decide) rfl ?_
              refine y_le (q := 91) (q' := 74) rfl rfl (by decide) rfl rfl (fun c20 => ?_) (fun c21 => ?_)
              · skip
                refine y_aload_n (q := 75) rfl rfl rfl ?_
                refine y_iload_n (q := 76) rfl rfl rfl ?_
                refine y_iload_n (q := 77) rfl rfl rfl ?_
                refine y_iload_n (q := 78) rfl rfl rfl ?_
                refine y_iconst (x := 5) (q := 79) rfl (by decide) rfl ?_
                refine y_ne (q := 86) (q' := 82) rfl rfl (by decide) rfl rfl (fun c22 => ?_) (fun c23 => ?_)
                · skip
                  refine y_iconst (x := 1) (q := 83) rfl (by decide) rfl ?_
                  refine y_goto (q := 87) rfl rfl ?_
                  refine y_callI (I := .invokevirtual 444) (idx := 444) (KD := 1) (J := 227) (mj := mj217) (as := [.ref 0, .int v1, .int v2, .int 1]) (r := []) (q := 90) rfl (fun _ _ _ _ _ _ => rfl) rfl (by decide) rfl rfl rfl rfl rfl (Nat.le_of_ble_eq_true rfl) (d_recv atM0 (by decide) (by decide)) rfl (m_X7_limitsBy (Nat.le_trans (by decide) hd) v1 v2 1 h) (fun r24 g25 => ?_)
                  exact y_retI rfl (by decide) rfl rfl
                · skip
                  refine y_iconst (x := 0) (q := 87) rfl (by decide) rfl ?_
                  refine y_callI (I := .invokevirtual 444) (idx := 444) (KD := 1) (J := 227) (mj := mj217) (as := [.ref 0, .int v1, .int v2, .int 0]) (r := []) (q := 90) rfl (fun _ _ _ _ _ _ => rfl) rfl (by decide) rfl rfl rfl rfl rfl (Nat.le_of_ble_eq_true rfl) (d_recv atM0 (by decide) (by decide)) rfl (m_X7_limitsBy (Nat.le_trans (by decide) hd) v1 v2 0 h) (fun r26 g27 => ?_)
                  exact y_retI rfl (by decide) rfl rfl
              · skip
                refine y_iload_n (q := 92) rfl rfl rfl ?_
                refine y_iconst (x := 1) (q := 93) rfl (by decide) rfl ?_
                refine y_ne (q := 100) (q' := 96) rfl rfl (by decide) rfl rfl (fun c28 => ?_) (fun c29 => ?_)
                · skip
                  refine y_iconst (x := 4) (q := 97) rfl (by decide) rfl ?_
                  refine y_goto (q := 110) rfl rfl ?_
                  refine y_istore (lo' := [some (.ref 0), some (.int v1), some (.int v2), some (.int v3), some (.int 4), none, none, none, none]) (q := 112) rfl (Nat.le_of_ble_eq_true rfl) rfl rfl ?_
                  refine y_iload (q := 114) rfl rfl rfl ?_
                  refine y_iconst (x := 5) (q := 115) rfl (by decide) rfl ?_
                  refine y_icmpT (q := 125) rfl (by decide) rfl ?_
                  refine y_aload_n (q := 126) rfl rfl rfl ?_
                  refine y_iload_n (q := 127) rfl rfl rfl ?_
                  refine y_iload (q := 129) rfl rfl rfl ?_
                  refine y_callI (I := .invokevirtual 113) (idx := 113) (KD := 1) (J := 141) (mj := mj131) (as := [.ref 0, .int v2, .int 4]) (r := []) (q := 132) rfl (fun _ _ _ _ _ _ => rfl) rfl (by decide) rfl rfl rfl rfl rfl (Nat.le_of_ble_eq_true rfl) (d_recv atM0 (by decide) (by decide)) rfl (m_X7_told (Nat.le_trans (by decide) hd) v2 4 h) (fun r30 g31 => ?_)
                  refine y_istore (lo' := [some (.ref 0), some (.int v1), some (.int v2), some (.int v3), some (.int 4), some (.int r30), none, none, none]) (q := 134) rfl (Nat.le_of_ble_eq_true rfl) rfl rfl ?_
                  refine y_iload_n (q := 135) rfl rfl rfl ?_
                  refine y_iconst (x := 1) (q := 136) rfl (by decide) rfl ?_
                  refine y_ne (q := 144) (q' := 139) rfl rfl (by decide) rfl rfl (fun c32 => ?_) (fun c33 => ?_)
                  · skip
                    refine y_bipush (x := 6) (q := 141) rfl (by decide) rfl ?_
                    refine y_goto (q := 167) rfl rfl ?_
                    refine y_istore (lo' := [some (.ref 0), some (.int v1), some (.int v2), some (.int v3), some (.int 4), some (.int r30), some (.int 6), none, none]) (q := 169) rfl (Nat.le_of_ble_eq_true rfl) rfl rfl ?_
                    refine y_iconst (x := 0) (q := 170) rfl (by decide) rfl ?_
                    refine y_istore (lo' := [some (.ref 0), some (.int v1), some (.int v2), some (.int v3), some (.int 4), some (.int r30), some (.int 6), some (.int 0), none]) (q := 172) rfl (Nat.le_of_ble_eq_true rfl) rfl rfl ?_
                    refine y_iconst (x := 0) (q := 173) rfl (by decide) rfl ?_
                    refine y_istore (lo' := [some (.ref 0), some (.int v1), some (.int v2), some (.int v3), some (.int 4), some (.int r30), some (.int 6), some (.int 0), some (.int 0)]) (q := 175) rfl (Nat.le_of_ble_eq_true rfl) rfl rfl ?_
                    refine lz_X7_tells_175 hd v1 v2 v3 4 r30 6  _ (fun v7_41 z42 g43 => ?_) fuel0 0 0 g31 
                    refine y_aload_n (q := 220) rfl rfl rfl ?_
                    refine y_iload (q := 222) rfl rfl rfl ?_
                    refine y_iload_n (q := 223) rfl rfl rfl ?_
                    refine y_iload (q := 225) rfl rfl rfl ?_
                    refine y_callV (I := .invokevirtual 117) (idx := 117) (KD := 1) (J := 135) (mj := mj125) (as := [.ref 0, .int 4, .int v2, .int r30]) (r := []) (q := 228) rfl (fun _ _ _ _ _ _ => rfl) rfl (by decide) rfl rfl rfl rfl rfl (Nat.le_of_ble_eq_true rfl) (d_recv atM0 (by decide) (by decide)) rfl (m_X7_lays (Nat.le_trans (by decide) hd) 4 v2 r30 g43) (fun g44 => ?_)
                    refine y_iload (q := 230) rfl rfl rfl ?_
                    exact y_retI rfl (by decide) rfl rfl
                  · skip
                    refine y_iload_n (q := 145) rfl rfl rfl ?_
                    refine y_iconst (x := 2) (q := 146) rfl (by decide) rfl ?_
                    refine y_ne (q := 154) (q' := 149) rfl rfl (by decide) rfl rfl (fun c45 => ?_) (fun c46 => ?_)
                    · skip
                      refine y_bipush (x := 10) (q := 151) rfl (by decide) rfl ?_
                      refine y_goto (q := 167) rfl rfl ?_
                      refine y_istore (lo' := [some (.ref 0), some (.int v1), some (.int v2), some (.int v3), some (.int 4), some (.int r30), some (.int 10), none, none]) (q := 169) rfl (Nat.le_of_ble_eq_true rfl) rfl rfl ?_
                      refine y_iconst (x := 0) (q := 170) rfl (by decide) rfl ?_
                      refine y_istore (lo' := [some (.ref 0), some (.int v1), some (.int v2), some (.int v3), some (.int 4), some (.int r30), some (.int 10), some (.int 0), none]) (q := 172) rfl (Nat.le_of_ble_eq_true rfl) rfl rfl ?_
                      refine y_iconst (x := 0) (q := 173) rfl (by decide) rfl ?_
                      refine y_istore (lo' := [some (.ref 0), some (.int v1), some (.int v2), some (.int v3), some (.int 4), some (.int r30), some (.int 10), some (.int 0), some (.int 0)]) (q := 175) rfl (Nat.le_of_ble_eq_true rfl) rfl rfl ?_
                      refine lz_X7_tells_175 hd v1 v2 v3 4 r30 10  _ (fun v7_47 z48 g49 => ?_) fuel0 0 0 g31 
                      refine y_aload_n (q := 220) rfl rfl rfl ?_
                      refine y_iload (q := 222) rfl rfl rfl ?_
                      refine y_iload_n (q := 223) rfl rfl rfl ?_
                      refine y_iload (q := 225) rfl rfl rfl ?_
                      refine y_callV (I := .invokevirtual 117) (idx := 117) (KD := 1) (J := 135) (mj := mj125) (as := [.ref 0, .int 4, .int v2, .int r30]) (r := []) (q := 228) rfl (fun _ _ _ _ _ _ => rfl) rfl (by decide) rfl rfl rfl rfl rfl (Nat.le_of_ble_eq_true rfl) (d_recv atM0 (by decide) (by decide)) rfl (m_X7_lays (Nat.le_trans (by decide) hd) 4 v2 r30 g49) (fun g50 => ?_)
                      refine y_iload (q := 230) rfl rfl rfl ?_
                      exact y_retI rfl (by decide) rfl rfl
                    · skip
                      refine y_iload_n (q := 155) rfl rfl rfl ?_
                      refine y_iconst (x := 3) (q := 156) rfl (by decide) rfl ?_
                      refine y_ne (q := 163) (q' := 159) rfl rfl (by decide) rfl rfl (fun c51 => ?_) (fun c52 => ?_)
                      · skip
                        refine y_iconst (x := 4) (q := 160) rfl (by decide) rfl ?_
                        refine y_goto (q := 167) rfl rfl ?_
                        refine y_istore (lo' := [some (.ref 0), some (.int v1), some (.int v2), some (.int v3), some (.int 4), some (.int r30), some (.int 4), none, none]) (q := 169) rfl (Nat.le_of_ble_eq_true rfl) rfl rfl ?_
                        refine y_iconst (x := 0) (q := 170) rfl (by decide) rfl ?_
                        refine y_istore (lo' := [some (.ref 0), some (.int v1), some (.int v2), some (.int v3), some (.int 4), some (.int r30), some (.int 4), some (.int 0), none]) (q := 172) rfl (Nat.le_of_ble_eq_true rfl) rfl rfl ?_
                        refine y_iconst (x := 0) (q := 173) rfl (by decide) rfl ?_
                        refine y_istore (lo' := [some (.ref 0), some (.int v1), some (.int v2), some (.int v3), some (.int 4), some (.int r30), some (.int 4), some (.int 0), some (.int 0)]) (q := 175) rfl (Nat.le_of_ble_eq_true rfl) rfl rfl ?_
                        refine lz_X7_tells_175 hd v1 v2 v3 4 r30 4  _ (fun v7_53 z54 g55 => ?_) fuel0 0 0 g31 
                        refine y_aload_n (q := 220) rfl rfl rfl ?_
                        refine y_iload (q := 222) rfl rfl rfl ?_
                        refine y_iload_n (q := 223) rfl rfl rfl ?_
                        refine y_iload (q := 225) rfl rfl rfl ?_
                        refine y_callV (I := .invokevirtual 117) (idx := 117) (KD := 1) (J := 135) (mj := mj125) (as := [.ref 0, .int 4, .int v2, .int r30]) (r := []) (q := 228) rfl (fun _ _ _ _ _ _ => rfl) rfl (by decide) rfl rfl rfl rfl rfl (Nat.le_of_ble_eq_true rfl) (d_recv atM0 (by decide) (by decide)) rfl (m_X7_lays (Nat.le_trans (by decide) hd) 4 v2 r30 g55) (fun g56 => ?_)
                        refine y_iload (q := 230) rfl rfl rfl ?_
                        exact y_retI rfl (by decide) rfl rfl
                      · skip
                        refine y_aload_n (q := 164) rfl rfl rfl ?_
                        refine y_getI (q := 167) rfl rfl (by decide) atM0 rfl rfl ?_
                        refine y_istore (lo' := [some (.ref 0), some (.int v1), some (.int v2), some (.int v3), some (.int 4), some (.int r30), some (.int (g31 0 3)), none, none]) (q := 169) rfl (Nat.le_of_ble_eq_true rfl) rfl rfl ?_
                        refine y_iconst (x := 0) (q := 170) rfl (by decide) rfl ?_
                        refine y_istore (lo' := [some (.ref 0), some (.int v1), some (.int v2), some (.int v3), some (.int 4), some (.int r30), some (.int (g31 0 3)), some (.int 0), none]) (q := 172) rfl (Nat.le_of_ble_eq_true rfl) rfl rfl ?_
                        refine y_iconst (x := 0) (q := 173) rfl (by decide) rfl ?_
                        refine y_istore (lo' := [some (.ref 0), some (.int v1), some (.int v2), some (.int v3), some (.int 4), some (.int r30), some (.int (g31 0 3)), some (.int 0), some (.int 0)]) (q := 175) rfl (Nat.le_of_ble_eq_true rfl) rfl rfl ?_
                        refine lz_X7_tells_175 hd v1 v2 v3 4 r30 (g31 0 3)  _ (fun v7_57 z58 g59 => ?_) fuel0 0 0 g31 
                        refine y_aload_n (q := 220) rfl rfl rfl ?_
                        refine y_iload (q := 222) rfl rfl rfl ?_
                        refine y_iload_n (q := 223) rfl rfl rfl ?_
                        refine y_iload (q := 225) rfl rfl rfl ?_
                        refine y_callV (I := .invokevirtual 117) (idx := 117) (KD := 1) (J := 135) (mj := mj125) (as := [.ref 0, .int 4, .int v2, .int r30]) (r := []) (q := 228) rfl (fun _ _ _ _ _ _ => rfl) rfl (by decide) rfl rfl rfl rfl rfl (Nat.le_of_ble_eq_true rfl) (d_recv atM0 (by decide) (by decide)) rfl (m_X7_lays (Nat.le_trans (by decide) hd) 4 v2 r30 g59) (fun g60 => ?_)
                        refine y_iload (q := 230) rfl rfl rfl ?_
                        exact y_retI rfl (by decide) rfl rfl
                · skip
                  refine y_iload_n (q := 101) rfl rfl rfl ?_
                  refine y_iconst (x := 4) (q := 102) rfl (by decide) rfl ?_
                  refine y_ne (q := 109) (q' := 105) rfl rfl (by decide) rfl rfl (fun c61 => ?_) (fun c62 => ?_)
                  · skip
                    refine y_iconst (x := 5) (q := 106) rfl (by decide) rfl ?_
                    refine y_goto (q := 110) rfl rfl ?_
                    refine y_istore (lo' := [some (.ref 0), some (.int v1), some (.int v2), some (.int v3), some (.int 5), none, none, none, none]) (q := 112) rfl (Nat.le_of_ble_eq_true rfl) rfl rfl ?_
                    refine y_iload (q := 114) rfl rfl rfl ?_
                    refine y_iconst (x := 5) (q := 115) rfl (by decide) rfl ?_
                    refine y_icmpF (q := 118) rfl (by decide) rfl rfl ?_
                    refine y_aload_n (q := 119) rfl rfl rfl ?_
                    refine y_getI (q := 122) rfl rfl (by decide) atM0 rfl rfl ?_
                    refine y_goto (q := 132) rfl rfl ?_
                    refine y_istore (lo' := [some (.ref 0), some (.int v1), some (.int v2), some (.int v3), some (.int 5), some (.int (h 0 4)), none, none, none]) (q := 134) rfl (Nat.le_of_ble_eq_true rfl) rfl rfl ?_
                    refine y_iload_n (q := 135) rfl rfl rfl ?_
                    refine y_iconst (x := 1) (q := 136) rfl (by decide) rfl ?_
                    refine y_ne (q := 144) (q' := 139) rfl rfl (by decide) rfl rfl (fun c63 => ?_) (fun c64 => ?_)
                    · skip
                      refine y_bipush (x := 6) (q := 141) rfl (by decide) rfl ?_
                      refine y_goto (q := 167) rfl rfl ?_
                      refine y_istore (lo' := [some (.ref 0), some (.int v1), some (.int v2), some (.int v3), some (.int 5), some (.int (h 0 4)), some (.int 6), none, none]) (q := 169) rfl (Nat.le_of_ble_eq_true rfl) rfl rfl ?_
                      refine y_iconst (x := 0) (q := 170) rfl (by decide) rfl ?_
                      refine y_istore (lo' := [some (.ref 0), some (.int v1), some (.int v2), some (.int v3), some (.int 5), some (.int (h 0 4)), some (.int 6), some (.int 0), none]) (q := 172) rfl (Nat.le_of_ble_eq_true rfl) rfl rfl ?_
                      refine y_iconst (x := 0) (q := 173) rfl (by decide) rfl ?_
                      refine y_istore (lo' := [some (.ref 0), some (.int v1), some (.int v2), some (.int v3), some (.int 5), some (.int (h 0 4)), some (.int 6), some (.int 0), some (.int 0)]) (q := 175) rfl (Nat.le_of_ble_eq_true rfl) rfl rfl ?_
                      refine lz_X7_tells_175 hd v1 v2 v3 5 (h 0 4) 6  _ (fun v7_65 z66 g67 => ?_) fuel0 0 0 h 
                      refine y_aload_n (q := 220) rfl rfl rfl ?_
                      refine y_iload (q := 222) rfl rfl rfl ?_
                      refine y_iload_n (q := 223) rfl rfl rfl ?_
                      refine y_iload (q := 225) rfl rfl rfl ?_
                      refine y_callV (I := .invokevirtual 117) (idx := 117) (KD := 1) (J := 135) (mj := mj125) (as := [.ref 0, .int 5, .int v2, .int (h 0 4)]) (r := []) (q := 228) rfl (fun _ _ _ _ _ _ => rfl) rfl (by decide) rfl rfl rfl rfl rfl (Nat.le_of_ble_eq_true rfl) (d_recv atM0 (by decide) (by decide)) rfl (m_X7_lays (Nat.le_trans (by decide) hd) 5 v2 (h 0 4) g67) (fun g68 => ?_)
                      refine y_iload (q := 230) rfl rfl rfl ?_
                      exact y_retI rfl (by decide) rfl rfl
                    · skip
                      refine y_iload_n (q := 145) rfl rfl rfl ?_
                      refine y_iconst (x := 2) (q := 146) rfl (by decide) rfl ?_
                      refine y_ne (q := 154) (q' := 149) rfl rfl (by decide) rfl rfl (fun c69 => ?_) (fun c70 => ?_)
                      · skip
                        refine y_bipush (x := 10) (q := 151) rfl (by decide) rfl ?_
                        refine y_goto (q := 167) rfl rfl ?_
                        refine y_istore (lo' := [some (.ref 0), some (.int v1), some (.int v2), some (.int v3), some (.int 5), some (.int (h 0 4)), some (.int 10), none, none]) (q := 169) rfl (Nat.le_of_ble_eq_true rfl) rfl rfl ?_
                        refine y_iconst (x := 0) (q := 170) rfl (by decide) rfl ?_
                        refine y_istore (lo' := [some (.ref 0), some (.int v1), some (.int v2), some (.int v3), some (.int 5), some (.int (h 0 4)), some (.int 10), some (.int 0), none]) (q := 172) rfl (Nat.le_of_ble_eq_true rfl) rfl rfl ?_
                        refine y_iconst (x := 0) (q := 173) rfl (by decide) rfl ?_
                        refine y_istore (lo' := [some (.ref 0), some (.int v1), some (.int v2), some (.int v3), some (.int 5), some (.int (h 0 4)), some (.int 10), some (.int 0), some (.int 0)]) (q := 175) rfl (Nat.le_of_ble_eq_true rfl) rfl rfl ?_
                        refine lz_X7_tells_175 hd v1 v2 v3 5 (h 0 4) 10  _ (fun v7_71 z72 g73 => ?_) fuel0 0 0 h 
                        refine y_aload_n (q := 220) rfl rfl rfl ?_
                        refine y_iload (q := 222) rfl rfl rfl ?_
                        refine y_iload_n (q := 223) rfl rfl rfl ?_
                        refine y_iload (q := 225) rfl rfl rfl ?_
                        refine y_callV (I := .invokevirtual 117) (idx := 117) (KD := 1) (J := 135) (mj := mj125) (as := [.ref 0, .int 5, .int v2, .int (h 0 4)]) (r := []) (q := 228) rfl (fun _ _ _ _ _ _ => rfl) rfl (by decide) rfl rfl rfl rfl rfl (Nat.le_of_ble_eq_true rfl) (d_recv atM0 (by decide) (by decide)) rfl (m_X7_lays (Nat.le_trans (by decide) hd) 5 v2 (h 0 4) g73) (fun g74 => ?_)
                        refine y_iload (q := 230) rfl rfl rfl ?_
                        exact y_retI rfl (by decide) rfl rfl
                      · skip
                        refine y_iload_n (q := 155) rfl rfl rfl ?_
                        refine y_iconst (x := 3) (q := 156) rfl (by decide) rfl ?_
                        refine y_ne (q := 163) (q' := 159) rfl rfl (by decide) rfl rfl (fun c75 => ?_) (fun c76 => ?_)
                        · skip
                          refine y_iconst (x := 4) (q := 160) rfl (by decide) rfl ?_
                          refine y_goto (q := 167) rfl rfl ?_
                          refine y_istore (lo' := [some (.ref 0), some (.int v1), some (.int v2), some (.int v3), some (.int 5), some (.int (h 0 4)), some (.int 4), none, none]) (q := 169) rfl (Nat.le_of_ble_eq_true rfl) rfl rfl ?_
                          refine y_iconst (x := 0) (q := 170) rfl (by decide) rfl ?_
                          refine y_istore (lo' := [some (.ref 0), some (.int v1), some (.int v2), some (.int v3), some (.int 5), some (.int (h 0 4)), some (.int 4), some (.int 0), none]) (q := 172) rfl (Nat.le_of_ble_eq_true rfl) rfl rfl ?_
                          refine y_iconst (x := 0) (q := 173) rfl (by decide) rfl ?_
                          refine y_istore (lo' := [some (.ref 0), some (.int v1), some (.int v2), some (.int v3), some (.int 5), some (.int (h 0 4)), some (.int 4), some (.int 0), some (.int 0)]) (q := 175) rfl (Nat.le_of_ble_eq_true rfl) rfl rfl ?_
                          refine lz_X7_tells_175 hd v1 v2 v3 5 (h 0 4) 4  _ (fun v7_77 z78 g79 => ?_) fuel0 0 0 h 
                          refine y_aload_n (q := 220) rfl rfl rfl ?_
                          refine y_iload (q := 222) rfl rfl rfl ?_
                          refine y_iload_n (q := 223) rfl rfl rfl ?_
                          refine y_iload (q := 225) rfl rfl rfl ?_
                          refine y_callV (I := .invokevirtual 117) (idx := 117) (KD := 1) (J := 135) (mj := mj125) (as := [.ref 0, .int 5, .int v2, .int (h 0 4)]) (r := []) (q := 228) rfl (fun _ _ _ _ _ _ => rfl) rfl (by decide) rfl rfl rfl rfl rfl (Nat.le_of_ble_eq_true rfl) (d_recv atM0 (by decide) (by decide)) rfl (m_X7_lays (Nat.le_trans (by decide) hd) 5 v2 (h 0 4) g79) (fun g80 => ?_)
                          refine y_iload (q := 230) rfl rfl rfl ?_
                          exact y_retI rfl (by decide) rfl rfl
                        · skip
                          refine y_aload_n (q := 164) rfl rfl rfl ?_
                          refine y_getI (q := 167) rfl rfl (by decide) atM0 rfl rfl ?_
                          refine y_istore (lo' := [some (.ref 0), some (.int v1), some (.int v2), some (.int v3), some (.int 5), some (.int (h 0 4)), some (.int (h 0 3)), none, none]) (q := 169) rfl (Nat.le_of_ble_eq_true rfl) rfl rfl ?_
                          refine y_iconst (x := 0) (q := 170) rfl (by decide) rfl ?_
                          refine y_istore (lo' := [some (.ref 0), some (.int v1), some (.int v2), some (.int v3), some (.int 5), some (.int (h 0 4)), some (.int (h 0 3)), some (.int 0), none]) (q := 172) rfl (Nat.le_of_ble_eq_true rfl) rfl rfl ?_
                          refine y_iconst (x := 0) (q := 173) rfl (by decide) rfl ?_
                          refine y_istore (lo' := [some (.ref 0), some (.int v1), some (.int v2), some (.int v3), some (.int 5), some (.int (h 0 4)), some (.int (h 0 3)), some (.int 0), some (.int 0)]) (q := 175) rfl (Nat.le_of_ble_eq_true rfl) rfl rfl ?_
                          refine lz_X7_tells_175 hd v1 v2 v3 5 (h 0 4) (h 0 3)  _ (fun v7_81 z82 g83 => ?_) fuel0 0 0 h 
                          refine y_aload_n (q := 220) rfl rfl rfl ?_
                          refine y_iload (q := 222) rfl rfl rfl ?_
                          refine y_iload_n (q := 223) rfl rfl rfl ?_
                          refine y_iload (q := 225) rfl rfl rfl ?_
                          refine y_callV (I := .invokevirtual 117) (idx := 117) (KD := 1) (J := 135) (mj := mj125) (as := [.ref 0, .int 5, .int v2, .int (h 0 4)]) (r := []) (q := 228) rfl (fun _ _ _ _ _ _ => rfl) rfl (by decide) rfl rfl rfl rfl rfl (Nat.le_of_ble_eq_true rfl) (d_recv atM0 (by decide) (by decide)) rfl (m_X7_lays (Nat.le_trans (by decide) hd) 5 v2 (h 0 4) g83) (fun g84 => ?_)
                          refine y_iload (q := 230) rfl rfl rfl ?_
                          exact y_retI rfl (by decide) rfl rfl
                  · skip
                    refine y_iload_n (q := 110) rfl rfl rfl ?_
                    refine y_istore (lo' := [some (.ref 0), some (.int v1), some (.int v2), some (.int v3), some (.int v3), none, none, none, none]) (q := 112) rfl (Nat.le_of_ble_eq_true rfl) rfl rfl ?_
                    refine y_iload (q := 114) rfl rfl rfl ?_
                    refine y_iconst (x := 5) (q := 115) rfl (by decide) rfl ?_
                    refine y_ne (q := 125) (q' := 118) rfl rfl (by decide) rfl rfl (fun c85 => ?_) (fun c86 => ?_)
                    · skip
                      refine y_aload_n (q := 119) rfl rfl rfl ?_
                      refine y_getI (q := 122) rfl rfl (by decide) atM0 rfl rfl ?_
                      refine y_goto (q := 132) rfl rfl ?_
                      refine y_istore (lo' := [some (.ref 0), some (.int v1), some (.int v2), some (.int v3), some (.int v3), some (.int (h 0 4)), none, none, none]) (q := 134) rfl (Nat.le_of_ble_eq_true rfl) rfl rfl ?_
                      refine y_iload_n (q := 135) rfl rfl rfl ?_
                      refine y_iconst (x := 1) (q := 136) rfl (by decide) rfl ?_
                      refine y_ne (q := 144) (q' := 139) rfl rfl (by decide) rfl rfl (fun c87 => ?_) (fun c88 => ?_)
                      · skip
                        refine y_bipush (x := 6) (q := 141) rfl (by decide) rfl ?_
                        refine y_goto (q := 167) rfl rfl ?_
                        refine y_istore (lo' := [some (.ref 0), some (.int v1), some (.int v2), some (.int v3), some (.int v3), some (.int (h 0 4)), some (.int 6), none, none]) (q := 169) rfl (Nat.le_of_ble_eq_true rfl) rfl rfl ?_
                        refine y_iconst (x := 0) (q := 170) rfl (by decide) rfl ?_
                        refine y_istore (lo' := [some (.ref 0), some (.int v1), some (.int v2), some (.int v3), some (.int v3), some (.int (h 0 4)), some (.int 6), some (.int 0), none]) (q := 172) rfl (Nat.le_of_ble_eq_true rfl) rfl rfl ?_
                        refine y_iconst (x := 0) (q := 173) rfl (by decide) rfl ?_
                        refine y_istore (lo' := [some (.ref 0), some (.int v1), some (.int v2), some (.int v3), some (.int v3), some (.int (h 0 4)), some (.int 6), some (.int 0), some (.int 0)]) (q := 175) rfl (Nat.le_of_ble_eq_true rfl) rfl rfl ?_
                        refine lz_X7_tells_175 hd v1 v2 v3 v3 (h 0 4) 6  _ (fun v7_89 z90 g91 => ?_) fuel0 0 0 h 
                        refine y_aload_n (q := 220) rfl rfl rfl ?_
                        refine y_iload (q := 222) rfl rfl rfl ?_
                        refine y_iload_n (q := 223) rfl rfl rfl ?_
                        refine y_iload (q := 225) rfl rfl rfl ?_
                        refine y_callV (I := .invokevirtual 117) (idx := 117) (KD := 1) (J := 135) (mj := mj125) (as := [.ref 0, .int v3, .int v2, .int (h 0 4)]) (r := []) (q := 228) rfl (fun _ _ _ _ _ _ => rfl) rfl (by decide) rfl rfl rfl rfl rfl (Nat.le_of_ble_eq_true rfl) (d_recv atM0 (by decide) (by decide)) rfl (m_X7_lays (Nat.le_trans (by decide) hd) v3 v2 (h 0 4) g91) (fun g92 => ?_)
                        refine y_iload (q := 230) rfl rfl rfl ?_
                        exact y_retI rfl (by decide) rfl rfl
                      · skip
                        refine y_iload_n (q := 145) rfl rfl rfl ?_
                        refine y_iconst (x := 2) (q := 146) rfl (by decide) rfl ?_
                        refine y_ne (q := 154) (q' := 149) rfl rfl (by decide) rfl rfl (fun c93 => ?_) (fun c94 => ?_)
                        · skip
                          refine y_bipush (x := 10) (q := 151) rfl (by decide) rfl ?_
                          refine y_goto (q := 167) rfl rfl ?_
                          refine y_istore (lo' := [some (.ref 0), some (.int v1), some (.int v2), some (.int v3), some (.int v3), some (.int (h 0 4)), some (.int 10), none, none]) (q := 169) rfl (Nat.le_of_ble_eq_true rfl) rfl rfl ?_
                          refine y_iconst (x := 0) (q := 170) rfl (by decide) rfl ?_
                          refine y_istore (lo' := [some (.ref 0), some (.int v1), some (.int v2), some (.int v3), some (.int v3), some (.int (h 0 4)), some (.int 10), some (.int 0), none]) (q := 172) rfl (Nat.le_of_ble_eq_true rfl) rfl rfl ?_
                          refine y_iconst (x := 0) (q := 173) rfl (by decide) rfl ?_
                          refine y_istore (lo' := [some (.ref 0), some (.int v1), some (.int v2), some (.int v3), some (.int v3), some (.int (h 0 4)), some (.int 10), some (.int 0), some (.int 0)]) (q := 175) rfl (Nat.le_of_ble_eq_true rfl) rfl rfl ?_
                          refine lz_X7_tells_175 hd v1 v2 v3 v3 (h 0 4) 10  _ (fun v7_95 z96 g97 => ?_) fuel0 0 0 h 
                          refine y_aload_n (q := 220) rfl rfl rfl ?_
                          refine y_iload (q := 222) rfl rfl rfl ?_
                          refine y_iload_n (q := 223) rfl rfl rfl ?_
                          refine y_iload (q := 225) rfl rfl rfl ?_
                          refine y_callV (I := .invokevirtual 117) (idx := 117) (KD := 1) (J := 135) (mj := mj125) (as := [.ref 0, .int v3, .int v2, .int (h 0 4)]) (r := []) (q := 228) rfl (fun _ _ _ _ _ _ => rfl) rfl (by decide) rfl rfl rfl rfl rfl (Nat.le_of_ble_eq_true rfl) (d_recv atM0 (by decide) (by decide)) rfl (m_X7_lays (Nat.le_trans (by decide) hd) v3 v2 (h 0 4) g97) (fun g98 => ?_)
                          refine y_iload (q := 230) rfl rfl rfl ?_
                          exact y_retI rfl (by decide) rfl rfl
                        · skip
                          refine y_iload_n (q := 155) rfl rfl rfl ?_
                          refine y_iconst (x := 3) (q := 156) rfl (by decide) rfl ?_
                          refine y_ne (q := 163) (q' := 159) rfl rfl (by decide) rfl rfl (fun c99 => ?_) (fun c100 => ?_)
                          · skip
                            refine y_iconst (x := 4) (q := 160) rfl (by decide) rfl ?_
                            refine y_goto (q := 167) rfl rfl ?_
                            refine y_istore (lo' := [some (.ref 0), some (.int v1), some (.int v2), some (.int v3), some (.int v3), some (.int (h 0 4)), some (.int 4), none, none]) (q := 169) rfl (Nat.le_of_ble_eq_true rfl) rfl rfl ?_
                            refine y_iconst (x := 0) (q := 170) rfl (by decide) rfl ?_
                            refine y_istore (lo' := [some (.ref 0), some (.int v1), some (.int v2), some (.int v3), some (.int v3), some (.int (h 0 4)), some (.int 4), some (.int 0), none]) (q := 172) rfl (Nat.le_of_ble_eq_true rfl) rfl rfl ?_
                            refine y_iconst (x := 0) (q := 173) rfl (by decide) rfl ?_
                            refine y_istore (lo' := [some (.ref 0), some (.int v1), some (.int v2), some (.int v3), some (.int v3), some (.int (h 0 4)), some (.int 4), some (.int 0), some (.int 0)]) (q := 175) rfl (Nat.le_of_ble_eq_true rfl) rfl rfl ?_
                            refine lz_X7_tells_175 hd v1 v2 v3 v3 (h 0 4) 4  _ (fun v7_101 z102 g103 => ?_) fuel0 0 0 h 
                            refine y_aload_n (q := 220) rfl rfl rfl ?_
                            refine y_iload (q := 222) rfl rfl rfl ?_
                            refine y_iload_n (q := 223) rfl rfl rfl ?_
                            refine y_iload (q := 225) rfl rfl rfl ?_
                            refine y_callV (I := .invokevirtual 117) (idx := 117) (KD := 1) (J := 135) (mj := mj125) (as := [.ref 0, .int v3, .int v2, .int (h 0 4)]) (r := []) (q := 228) rfl (fun _ _ _ _ _ _ => rfl) rfl (by decide) rfl rfl rfl rfl rfl (Nat.le_of_ble_eq_true rfl) (d_recv atM0 (by decide) (by decide)) rfl (m_X7_lays (Nat.le_trans (by decide) hd) v3 v2 (h 0 4) g103) (fun g104 => ?_)
                            refine y_iload (q := 230) rfl rfl rfl ?_
                            exact y_retI rfl (by decide) rfl rfl
                          · skip
                            refine y_aload_n (q := 164) rfl rfl rfl ?_
                            refine y_getI (q := 167) rfl rfl (by decide) atM0 rfl rfl ?_
                            refine y_istore (lo' := [some (.ref 0), some (.int v1), some (.int v2), some (.int v3), some (.int v3), some (.int (h 0 4)), some (.int (h 0 3)), none, none]) (q := 169) rfl (Nat.le_of_ble_eq_true rfl) rfl rfl ?_
                            refine y_iconst (x := 0) (q := 170) rfl (by decide) rfl ?_
                            refine y_istore (lo' := [some (.ref 0), some (.int v1), some (.int v2), some (.int v3), some (.int v3), some (.int (h 0 4)), some (.int (h 0 3)), some (.int 0), none]) (q := 172) rfl (Nat.le_of_ble_eq_true rfl) rfl rfl ?_
                            refine y_iconst (x := 0) (q := 173) rfl (by decide) rfl ?_
                            refine y_istore (lo' := [some (.ref 0), some (.int v1), some (.int v2), some (.int v3), some (.int v3), some (.int (h 0 4)), some (.int (h 0 3)), some (.int 0), some (.int 0)]) (q := 175) rfl (Nat.le_of_ble_eq_true rfl) rfl rfl ?_
                            refine lz_X7_tells_175 hd v1 v2 v3 v3 (h 0 4) (h 0 3)  _ (fun v7_105 z106 g107 => ?_) fuel0 0 0 h 
                            refine y_aload_n (q := 220) rfl rfl rfl ?_
                            refine y_iload (q := 222) rfl rfl rfl ?_
                            refine y_iload_n (q := 223) rfl rfl rfl ?_
                            refine y_iload (q := 225) rfl rfl rfl ?_
                            refine y_callV (I := .invokevirtual 117) (idx := 117) (KD := 1) (J := 135) (mj := mj125) (as := [.ref 0, .int v3, .int v2, .int (h 0 4)]) (r := []) (q := 228) rfl (fun _ _ _ _ _ _ => rfl) rfl (by decide) rfl rfl rfl rfl rfl (Nat.le_of_ble_eq_true rfl) (d_recv atM0 (by decide) (by decide)) rfl (m_X7_lays (Nat.le_trans (by decide) hd) v3 v2 (h 0 4) g107) (fun g108 => ?_)
                            refine y_iload (q := 230) rfl rfl rfl ?_
                            exact y_retI rfl (by decide) rfl rfl
                    · skip
                      refine y_aload_n (q := 126) rfl rfl rfl ?_
                      refine y_iload_n (q := 127) rfl rfl rfl ?_
                      refine y_iload (q := 129) rfl rfl rfl ?_
                      refine y_callI (I := .invokevirtual 113) (idx := 113) (KD := 1) (J := 141) (mj := mj131) (as := [.ref 0, .int v2, .int v3]) (r := []) (q := 132) rfl (fun _ _ _ _ _ _ => rfl) rfl (by decide) rfl rfl rfl rfl rfl (Nat.le_of_ble_eq_true rfl) (d_recv atM0 (by decide) (by decide)) rfl (m_X7_told (Nat.le_trans (by decide) hd) v2 v3 h) (fun r109 g110 => ?_)
                      refine y_istore (lo' := [some (.ref 0), some (.int v1), some (.int v2), some (.int v3), some (.int v3), some (.int r109), none, none, none]) (q := 134) rfl (Nat.le_of_ble_eq_true rfl) rfl rfl ?_
                      refine y_iload_n (q := 135) rfl rfl rfl ?_
                      refine y_iconst (x := 1) (q := 136) rfl (by decide) rfl ?_
                      refine y_ne (q := 144) (q' := 139) rfl rfl (by decide) rfl rfl (fun c111 => ?_) (fun c112 => ?_)
                      · skip
                        refine y_bipush (x := 6) (q := 141) rfl (by decide) rfl ?_
                        refine y_goto (q := 167) rfl rfl ?_
                        refine y_istore (lo' := [some (.ref 0), some (.int v1), some (.int v2), some (.int v3), some (.int v3), some (.int r109), some (.int 6), none, none]) (q := 169) rfl (Nat.le_of_ble_eq_true rfl) rfl rfl ?_
                        refine y_iconst (x := 0) (q := 170) rfl (by decide) rfl ?_
                        refine y_istore (lo' := [some (.ref 0), some (.int v1), some (.int v2), some (.int v3), some (.int v3), some (.int r109), some (.int 6), some (.int 0), none]) (q := 172) rfl (Nat.le_of_ble_eq_true rfl) rfl rfl ?_
                        refine y_iconst (x := 0) (q := 173) rfl (by decide) rfl ?_
                        refine y_istore (lo' := [some (.ref 0), some (.int v1), some (.int v2), some (.int v3), some (.int v3), some (.int r109), some (.int 6), some (.int 0), some (.int 0)]) (q := 175) rfl (Nat.le_of_ble_eq_true rfl) rfl rfl ?_
                        refine lz_X7_tells_175 hd v1 v2 v3 v3 r109 6  _ (fun v7_113 z114 g115 => ?_) fuel0 0 0 g110 
                        refine y_aload_n (q := 220) rfl rfl rfl ?_
                        refine y_iload (q := 222) rfl rfl rfl ?_
                        refine y_iload_n (q := 223) rfl rfl rfl ?_
                        refine y_iload (q := 225) rfl rfl rfl ?_
                        refine y_callV (I := .invokevirtual 117) (idx := 117) (KD := 1) (J := 135) (mj := mj125) (as := [.ref 0, .int v3, .int v2, .int r109]) (r := []) (q := 228) rfl (fun _ _ _ _ _ _ => rfl) rfl (by decide) rfl rfl rfl rfl rfl (Nat.le_of_ble_eq_true rfl) (d_recv atM0 (by decide) (by decide)) rfl (m_X7_lays (Nat.le_trans (by decide) hd) v3 v2 r109 g115) (fun g116 => ?_)
                        refine y_iload (q := 230) rfl rfl rfl ?_
                        exact y_retI rfl (by decide) rfl rfl
                      · skip
                        refine y_iload_n (q := 145) rfl rfl rfl ?_
                        refine y_iconst (x := 2) (q := 146) rfl (by decide) rfl ?_
                        refine y_ne (q := 154) (q' := 149) rfl rfl (by decide) rfl rfl (fun c117 => ?_) (fun c118 => ?_)
                        · skip
                          refine y_bipush (x := 10) (q := 151) rfl (by decide) rfl ?_
                          refine y_goto (q := 167) rfl rfl ?_
                          refine y_istore (lo' := [some (.ref 0), some (.int v1), some (.int v2), some (.int v3), some (.int v3), some (.int r109), some (.int 10), none, none]) (q := 169) rfl (Nat.le_of_ble_eq_true rfl) rfl rfl ?_
                          refine y_iconst (x := 0) (q := 170) rfl (by decide) rfl ?_
                          refine y_istore (lo' := [some (.ref 0), some (.int v1), some (.int v2), some (.int v3), some (.int v3), some (.int r109), some (.int 10), some (.int 0), none]) (q := 172) rfl (Nat.le_of_ble_eq_true rfl) rfl rfl ?_
                          refine y_iconst (x := 0) (q := 173) rfl (by decide) rfl ?_
                          refine y_istore (lo' := [some (.ref 0), some (.int v1), some (.int v2), some (.int v3), some (.int v3), some (.int r109), some (.int 10), some (.int 0), some (.int 0)]) (q := 175) rfl (Nat.le_of_ble_eq_true rfl) rfl rfl ?_
                          refine lz_X7_tells_175 hd v1 v2 v3 v3 r109 10  _ (fun v7_119 z120 g121 => ?_) fuel0 0 0 g110 
                          refine y_aload_n (q := 220) rfl rfl rfl ?_
                          refine y_iload (q := 222) rfl rfl rfl ?_
                          refine y_iload_n (q := 223) rfl rfl rfl ?_
                          refine y_iload (q := 225) rfl rfl rfl ?_
                          refine y_callV (I := .invokevirtual 117) (idx := 117) (KD := 1) (J := 135) (mj := mj125) (as := [.ref 0, .int v3, .int v2, .int r109]) (r := []) (q := 228) rfl (fun _ _ _ _ _ _ => rfl) rfl (by decide) rfl rfl rfl rfl rfl (Nat.le_of_ble_eq_true rfl) (d_recv atM0 (by decide) (by decide)) rfl (m_X7_lays (Nat.le_trans (by decide) hd) v3 v2 r109 g121) (fun g122 => ?_)
                          refine y_iload (q := 230) rfl rfl rfl ?_
                          exact y_retI rfl (by decide) rfl rfl
                        · skip
                          refine y_iload_n (q := 155) rfl rfl rfl ?_
                          refine y_iconst (x := 3) (q := 156) rfl (by decide) rfl ?_
                          refine y_ne (q := 163) (q' := 159) rfl rfl (by decide) rfl rfl (fun c123 => ?_) (fun c124 => ?_)
                          · skip
                            refine y_iconst (x := 4) (q := 160) rfl (by decide) rfl ?_
                            refine y_goto (q := 167) rfl rfl ?_
                            refine y_istore (lo' := [some (.ref 0), some (.int v1), some (.int v2), some (.int v3), some (.int v3), some (.int r109), some (.int 4), none, none]) (q := 169) rfl (Nat.le_of_ble_eq_true rfl) rfl rfl ?_
                            refine y_iconst (x := 0) (q := 170) rfl (by decide) rfl ?_
                            refine y_istore (lo' := [some (.ref 0), some (.int v1), some (.int v2), some (.int v3), some (.int v3), some (.int r109), some (.int 4), some (.int 0), none]) (q := 172) rfl (Nat.le_of_ble_eq_true rfl) rfl rfl ?_
                            refine y_iconst (x := 0) (q := 173) rfl (by decide) rfl ?_
                            refine y_istore (lo' := [some (.ref 0), some (.int v1), some (.int v2), some (.int v3), some (.int v3), some (.int r109), some (.int 4), some (.int 0), some (.int 0)]) (q := 175) rfl (Nat.le_of_ble_eq_true rfl) rfl rfl ?_
                            refine lz_X7_tells_175 hd v1 v2 v3 v3 r109 4  _ (fun v7_125 z126 g127 => ?_) fuel0 0 0 g110 
                            refine y_aload_n (q := 220) rfl rfl rfl ?_
                            refine y_iload (q := 222) rfl rfl rfl ?_
                            refine y_iload_n (q := 223) rfl rfl rfl ?_
                            refine y_iload (q := 225) rfl rfl rfl ?_
                            refine y_callV (I := .invokevirtual 117) (idx := 117) (KD := 1) (J := 135) (mj := mj125) (as := [.ref 0, .int v3, .int v2, .int r109]) (r := []) (q := 228) rfl (fun _ _ _ _ _ _ => rfl) rfl (by decide) rfl rfl rfl rfl rfl (Nat.le_of_ble_eq_true rfl) (d_recv atM0 (by decide) (by decide)) rfl (m_X7_lays (Nat.le_trans (by decide) hd) v3 v2 r109 g127) (fun g128 => ?_)
                            refine y_iload (q := 230) rfl rfl rfl ?_
                            exact y_retI rfl (by decide) rfl rfl
                          · skip
                            refine y_aload_n (q := 164) rfl rfl rfl ?_
                            refine y_getI (q := 167) rfl rfl (by decide) atM0 rfl rfl ?_
                            refine y_istore (lo' := [some (.ref 0), some (.int v1), some (.int v2), some (.int v3), some (.int v3), some (.int r109), some (.int (g110 0 3)), none, none]) (q := 169) rfl (Nat.le_of_ble_eq_true rfl) rfl rfl ?_
                            refine y_iconst (x := 0) (q := 170) rfl (by decide) rfl ?_
                            refine y_istore (lo' := [some (.ref 0), some (.int v1), some (.int v2), some (.int v3), some (.int v3), some (.int r109), some (.int (g110 0 3)), some (.int 0), none]) (q := 172) rfl (Nat.le_of_ble_eq_true rfl) rfl rfl ?_
                            refine y_iconst (x := 0) (q := 173) rfl (by decide) rfl ?_
                            refine y_istore (lo' := [some (.ref 0), some (.int v1), some (.int v2), some (.int v3), some (.int v3), some (.int r109), some (.int (g110 0 3)), some (.int 0), some (.int 0)]) (q := 175) rfl (Nat.le_of_ble_eq_true rfl) rfl rfl ?_
                            refine lz_X7_tells_175 hd v1 v2 v3 v3 r109 (g110 0 3)  _ (fun v7_129 z130 g131 => ?_) fuel0 0 0 g110 
                            refine y_aload_n (q := 220) rfl rfl rfl ?_
                            refine y_iload (q := 222) rfl rfl rfl ?_
                            refine y_iload_n (q := 223) rfl rfl rfl ?_
                            refine y_iload (q := 225) rfl rfl rfl ?_
                            refine y_callV (I := .invokevirtual 117) (idx := 117) (KD := 1) (J := 135) (mj := mj125) (as := [.ref 0, .int v3, .int v2, .int r109]) (r := []) (q := 228) rfl (fun _ _ _ _ _ _ => rfl) rfl (by decide) rfl rfl rfl rfl rfl (Nat.le_of_ble_eq_true rfl) (d_recv atM0 (by decide) (by decide)) rfl (m_X7_lays (Nat.le_trans (by decide) hd) v3 v2 r109 g131) (fun g132 => ?_)
                            refine y_iload (q := 230) rfl rfl rfl ?_
                            exact y_retI rfl (by decide) rfl rfl
          · skip
            refine y_bipush (x := (-2)) (q := 57) rfl (by decide) rfl ?_
            exact y_retI rfl (by decide) rfl rfl
end
