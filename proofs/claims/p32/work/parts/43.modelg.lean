section
/-! X7_best, X7_change, X7_clears, X7_sitsAgain, X7_split, X7_missed, X7_match, X7_unlike, X7_limitsBy, X7_isSheet, X7_tells (by program) -/
noncomputable section
def l_X7_best_50 (v1 : Int32) (v2 : Int32) (k : Int32 → Int32 → dH → Option (Int32 × dH)) : Nat → Int32 → Int32 → Int32 → dH → Option (Int32 × dH)
  | 0, _, _, _, _ => none
  | n + 1, v5, v6, v7, h => if v7.toInt < 4 then (if 0 ≤ v1.toInt ∧ v1.toInt < 8 then (oH (dU h 6 (v1.toInt.toNat) v7) (fun g13 => oI (f_X7_friendsBehind v2 g13) (fun r15 g16 => if v6.toInt < r15.toInt then (l_X7_best_50 v1 v2 k n v7 r15 (v7 + 1) g16) else (l_X7_best_50 v1 v2 k n v5 v6 (v7 + 1) g16)))) else none) else (k v5 v6 h)
theorem lz_X7_best_50 {d : Nat} (hd : 47 ≤ d) (v1 : Int32) (v2 : Int32) (v3 : Int32) (v4 : Int32) (k : Int32 → Int32 → dH → Option (Int32 × dH)) (hk : ∀ (v5 : Int32) (v6 : Int32) (w7 : Int32) (z8 : Option Value) (h : dH), dY shM d mj209 dI (k v5 v6 h) 92 [some (.ref 0), some (.int v1), some (.int v2), some (.int v3), some (.int v4), some (.int v5), some (.int v6), some (.int w7), z8] [] h) : ∀ (n : Nat) (v5 : Int32) (v6 : Int32) (v7 : Int32) (h : dH) (z8 : Option Value), dY shM d mj209 dI (l_X7_best_50 v1 v2 k n v5 v6 v7 h) 50 [some (.ref 0), some (.int v1), some (.int v2), some (.int v3), some (.int v4), some (.int v5), some (.int v6), some (.int v7), z8] [] h
  | 0, _, _, _, _, _ => dY_none
  | n + 1, v5, v6, v7, h, z8 => by
    rw [l_X7_best_50]
    refine y_iload (q := 52) rfl rfl rfl ?_
    refine y_iconst (x := 4) (q := 53) rfl (by decide) rfl ?_
    refine y_ge (q := 92) (q' := 56) rfl rfl (by decide) rfl rfl (fun c11 => ?_) (fun c12 => ?_)
    · skip
      refine y_aload_n (q := 57) rfl rfl rfl ?_
      refine y_getR (b := 6) (q := 60) rfl rfl (by decide) atM0 rfl rfl ?_
      refine y_iload_n (q := 61) rfl rfl rfl ?_
      refine y_iload (q := 63) rfl rfl rfl ?_
      refine y_guard (fun c14 => ?_)
      refine y_iast (n := 8) (N := 8) (X := v1.toInt) (K := v1.toInt.toNat) (q := 64) rfl atM6 rfl rfl c14 rfl rfl (fun g13 => ?_)
      refine y_aload_n (q := 65) rfl rfl rfl ?_
      refine y_iload_n (q := 66) rfl rfl rfl ?_
      refine y_callI (I := .invokevirtual 425) (idx := 425) (KD := 1) (J := 217) (mj := mj207) (as := [.ref 0, .int v2]) (r := []) (q := 69) rfl (fun _ _ _ _ _ _ => rfl) rfl (by decide) rfl rfl rfl rfl rfl (Nat.le_of_ble_eq_true rfl) (d_recv atM0 (by decide) (by decide)) rfl (m_X7_friendsBehind (Nat.le_trans (by decide) hd) v2 g13) (fun r15 g16 => ?_)
      refine y_istore (lo' := [some (.ref 0), some (.int v1), some (.int v2), some (.int v3), some (.int v4), some (.int v5), some (.int v6), some (.int v7), some (.int r15)]) (q := 71) rfl (Nat.le_of_ble_eq_true rfl) rfl rfl ?_
      refine y_iload (q := 73) rfl rfl rfl ?_
      refine y_iload (q := 75) rfl rfl rfl ?_
      refine y_le (q := 86) (q' := 78) rfl rfl rfl rfl rfl (fun c17 => ?_) (fun c18 => ?_)
      · skip
        refine y_iload (q := 80) rfl rfl rfl ?_
        refine y_istore (lo' := [some (.ref 0), some (.int v1), some (.int v2), some (.int v3), some (.int v4), some (.int v7), some (.int v6), some (.int v7), some (.int r15)]) (q := 82) rfl (Nat.le_of_ble_eq_true rfl) rfl rfl ?_
        refine y_iload (q := 84) rfl rfl rfl ?_
        refine y_istore (lo' := [some (.ref 0), some (.int v1), some (.int v2), some (.int v3), some (.int v4), some (.int v7), some (.int r15), some (.int v7), some (.int r15)]) (q := 86) rfl (Nat.le_of_ble_eq_true rfl) rfl rfl ?_
        refine y_iinc (z := (v7 + 1)) (lo' := [some (.ref 0), some (.int v1), some (.int v2), some (.int v3), some (.int v4), some (.int v7), some (.int r15), some (.int (v7 + 1)), some (.int r15)]) (q := 89) rfl rfl (Nat.le_of_ble_eq_true rfl) (by rw [oi_1]) rfl rfl ?_
        refine y_goto (q := 50) rfl rfl ?_
        exact lz_X7_best_50 hd v1 v2 v3 v4 k hk n v7 r15 (v7 + 1) g16 (some (.int r15))
      · skip
        refine y_iinc (z := (v7 + 1)) (lo' := [some (.ref 0), some (.int v1), some (.int v2), some (.int v3), some (.int v4), some (.int v5), some (.int v6), some (.int (v7 + 1)), some (.int r15)]) (q := 89) rfl rfl (Nat.le_of_ble_eq_true rfl) (by rw [oi_1]) rfl rfl ?_
        refine y_goto (q := 50) rfl rfl ?_
        exact lz_X7_best_50 hd v1 v2 v3 v4 k hk n v5 v6 (v7 + 1) g16 (some (.int r15))
    · skip
      exact hk v5 v6 v7 (z8) h
def f_X7_best (v1 : Int32) (v2 : Int32) (v3 : Int32) (h : dH) : Option (Int32 × dH) := oP (f_X7_isHouse v1 h) (fun r1 => if r1.toInt = 0 then (some ((-2), h)) else (oP (f_X7_in (v2.toInt64) 0 20) (fun r4 => if r4.toInt = 0 then (some ((-2), h)) else (oP (f_X7_in (v3.toInt64) 0 1) (fun r7 => if r7.toInt = 0 then (some ((-2), h)) else (if 0 ≤ v1.toInt ∧ v1.toInt < 8 then (l_X7_best_50 v1 v2  (fun v5_19 v6_20 g23 => if 0 ≤ v1.toInt ∧ v1.toInt < 8 then (oH (dU g23 6 (v1.toInt.toNat) (h 6 (v1.toInt.toNat))) (fun g24 => if v3.toInt = 0 then (some (v5_19, g24)) else (some (v6_20, g24)))) else none) fuel0 (-1) (-1) 0 h) else none))))))
theorem m_X7_best {d : Nat} (hd : 48 ≤ d) (v1 : Int32) (v2 : Int32) (v3 : Int32) (h : dH) : dX shM d 209 [.ref 0, .int v1, .int v2, .int v3] dI (f_X7_best v1 v2 v3 h) h := by
  obtain ⟨e, rfl⟩ : ∃ e, d = e + 1 := ⟨d - 1, by omega⟩
  have hd : 47 ≤ e := by omega
  refine dX_of (mj := mj209) (lo := [some (.ref 0), some (.int v1), some (.int v2), some (.int v3), none, none, none, none, none]) rfl (Nat.le_of_ble_eq_true rfl) rfl ?_
  unfold f_X7_best
  refine y_aload_n (q := 1) rfl rfl rfl ?_
  refine y_iload_n (q := 2) rfl rfl rfl ?_
  refine y_callP (I := .invokevirtual 105) (idx := 105) (KD := 1) (J := 132) (mj := mj122) (as := [.ref 0, .int v1]) (r := []) (q := 5) rfl (fun _ _ _ _ _ _ => rfl) rfl (by decide) rfl rfl rfl rfl rfl (Nat.le_of_ble_eq_true rfl) (d_recv atM0 (by decide) (by decide)) rfl (m_X7_isHouse (Nat.le_trans (by decide) hd) v1 h) (fun r1 => ?_)
  refine y_eq0 (q := 30) (q' := 8) rfl rfl rfl rfl (fun c2 => ?_) (fun c3 => ?_)
  · skip
    refine y_bipush (x := (-2)) (q := 32) rfl (by decide) rfl ?_
    exact y_retI rfl (by decide) rfl rfl
  · skip
    refine y_iload_n (q := 9) rfl rfl rfl ?_
    refine y_i2l (q := 10) rfl rfl ?_
    refine y_lconst (u := 0) (q := 11) rfl (by decide) rfl ?_
    refine y_ldc2_w (u := 20) (q := 14) rfl rfl rfl ?_
    refine y_callP (I := .invokestatic 91) (idx := 91) (KD := 0) (J := 128) (mj := mj118) (as := [.long v2.toInt64, .long 0, .long 20]) (r := []) (q := 17) rfl (fun _ _ _ _ _ _ => rfl) rfl (by decide) rfl rfl rfl rfl rfl (Nat.le_of_ble_eq_true rfl) rfl rfl (m_X7_in (Nat.le_trans (by decide) hd) (v2.toInt64) 0 20 h) (fun r4 => ?_)
    refine y_eq0 (q := 30) (q' := 20) rfl rfl rfl rfl (fun c5 => ?_) (fun c6 => ?_)
    · skip
      refine y_bipush (x := (-2)) (q := 32) rfl (by decide) rfl ?_
      exact y_retI rfl (by decide) rfl rfl
    · skip
      refine y_iload_n (q := 21) rfl rfl rfl ?_
      refine y_i2l (q := 22) rfl rfl ?_
      refine y_lconst (u := 0) (q := 23) rfl (by decide) rfl ?_
      refine y_lconst (u := 1) (q := 24) rfl (by decide) rfl ?_
      refine y_callP (I := .invokestatic 91) (idx := 91) (KD := 0) (J := 128) (mj := mj118) (as := [.long v3.toInt64, .long 0, .long 1]) (r := []) (q := 27) rfl (fun _ _ _ _ _ _ => rfl) rfl (by decide) rfl rfl rfl rfl rfl (Nat.le_of_ble_eq_true rfl) rfl rfl (m_X7_in (Nat.le_trans (by decide) hd) (v3.toInt64) 0 1 h) (fun r7 => ?_)
      refine y_ne0 (q := 33) (q' := 30) rfl rfl rfl rfl (fun c8 => ?_) (fun c9 => ?_)
      · skip
        refine y_bipush (x := (-2)) (q := 32) rfl (by decide) rfl ?_
        exact y_retI rfl (by decide) rfl rfl
      · skip
        refine y_aload_n (q := 34) rfl rfl rfl ?_
        refine y_getR (b := 6) (q := 37) rfl rfl (by decide) atM0 rfl rfl ?_
        refine y_iload_n (q := 38) rfl rfl rfl ?_
        refine y_guard (fun c10 => ?_)
        refine y_iald (n := 8) (N := 8) (X := v1.toInt) (K := v1.toInt.toNat) (q := 39) hbM rfl atM6 rfl rfl c10 rfl rfl ?_
        refine y_istore (lo' := [some (.ref 0), some (.int v1), some (.int v2), some (.int v3), some (.int (h 6 (v1.toInt.toNat))), none, none, none, none]) (q := 41) rfl (Nat.le_of_ble_eq_true rfl) rfl rfl ?_
        refine y_iconst (x := (-1)) (q := 42) rfl (by decide) rfl ?_
        refine y_istore (lo' := [some (.ref 0), some (.int v1), some (.int v2), some (.int v3), some (.int (h 6 (v1.toInt.toNat))), some (.int (-1)), none, none, none]) (q := 44) rfl (Nat.le_of_ble_eq_true rfl) rfl rfl ?_
        refine y_iconst (x := (-1)) (q := 45) rfl (by decide) rfl ?_
        refine y_istore (lo' := [some (.ref 0), some (.int v1), some (.int v2), some (.int v3), some (.int (h 6 (v1.toInt.toNat))), some (.int (-1)), some (.int (-1)), none, none]) (q := 47) rfl (Nat.le_of_ble_eq_true rfl) rfl rfl ?_
        refine y_iconst (x := 0) (q := 48) rfl (by decide) rfl ?_
        refine y_istore (lo' := [some (.ref 0), some (.int v1), some (.int v2), some (.int v3), some (.int (h 6 (v1.toInt.toNat))), some (.int (-1)), some (.int (-1)), some (.int 0), none]) (q := 50) rfl (Nat.le_of_ble_eq_true rfl) rfl rfl ?_
        refine lz_X7_best_50 hd v1 v2 v3 (h 6 (v1.toInt.toNat))  _ (fun v5_19 v6_20 z21 z22 g23 => ?_) fuel0 (-1) (-1) 0 h (none)
        refine y_aload_n (q := 93) rfl rfl rfl ?_
        refine y_getR (b := 6) (q := 96) rfl rfl (by decide) atM0 rfl rfl ?_
        refine y_iload_n (q := 97) rfl rfl rfl ?_
        refine y_iload (q := 99) rfl rfl rfl ?_
        refine y_guard (fun c25 => ?_)
        refine y_iast (n := 8) (N := 8) (X := v1.toInt) (K := v1.toInt.toNat) (q := 100) rfl atM6 rfl rfl c25 rfl rfl (fun g24 => ?_)
        refine y_iload_n (q := 101) rfl rfl rfl ?_
        refine y_ne0 (q := 109) (q' := 104) rfl rfl rfl rfl (fun c26 => ?_) (fun c27 => ?_)
        · skip
          refine y_iload (q := 106) rfl rfl rfl ?_
          refine y_goto (q := 111) rfl rfl ?_
          exact y_retI rfl (by decide) rfl rfl
        · skip
          refine y_iload (q := 111) rfl rfl rfl ?_
          exact y_retI rfl (by decide) rfl rfl
def l_X7_change_52 (v1 : Int32) (v5 : Int32) (k : Int32 → Int32 → dH → Option (Int32 × dH)) : Nat → Int32 → Int32 → Int32 → dH → Option (Int32 × dH)
  | 0, _, _, _, _ => none
  | n + 1, v3, v4, v6, h => if v6.toInt < (h 0 13).toInt then (if 0 ≤ v5.toInt ∧ v5.toInt < 8 then (if 0 ≤ v6.toInt ∧ v6.toInt < 8 then (if (h 6 (v5.toInt.toNat)).toInt = (-1) then (l_X7_change_52 v1 v5 k n v3 v4 (v6 + 1) h) else (if (h 6 (v6.toInt.toNat)).toInt = (-1) then (l_X7_change_52 v1 v5 k n v3 v4 (v6 + 1) h) else (if (h 6 (v5.toInt.toNat)).toInt = (h 6 (v6.toInt.toNat)).toInt then (l_X7_change_52 v1 v5 k n v3 v4 (v6 + 1) h) else (if 0 ≤ v5.toInt ∧ v5.toInt < 8 then (oH (dU h 6 (v5.toInt.toNat) (h 6 (v6.toInt.toNat))) (fun g21 => if 0 ≤ v6.toInt ∧ v6.toInt < 8 then (oH (dU g21 6 (v6.toInt.toNat) (h 6 (v5.toInt.toNat))) (fun g23 => oI (f_X7_friendsBehind v1 g23) (fun r25 g26 => if 0 ≤ v5.toInt ∧ v5.toInt < 8 then (oH (dU g26 6 (v5.toInt.toNat) (h 6 (v5.toInt.toNat))) (fun g27 => if 0 ≤ v6.toInt ∧ v6.toInt < 8 then (oH (dU g27 6 (v6.toInt.toNat) (h 6 (v6.toInt.toNat))) (fun g29 => if v4.toInt < r25.toInt then (l_X7_change_52 v1 v5 k n ((10 * v5) + v6) r25 (v6 + 1) g29) else (l_X7_change_52 v1 v5 k n v3 v4 (v6 + 1) g29))) else none)) else none))) else none)) else none)))) else none) else none) else (k v3 v4 h)
theorem lz_X7_change_52 {d : Nat} (hd : 47 ≤ d) (v1 : Int32) (v2 : Int32) (v5 : Int32) (k : Int32 → Int32 → dH → Option (Int32 × dH)) (hk : ∀ (v3 : Int32) (v4 : Int32) (w6 : Int32) (z7 : Option Value) (z8 : Option Value) (z9 : Option Value) (h : dH), dY shM d mj210 dI (k v3 v4 h) 167 [some (.ref 0), some (.int v1), some (.int v2), some (.int v3), some (.int v4), some (.int v5), some (.int w6), z7, z8, z9] [] h) : ∀ (n : Nat) (v3 : Int32) (v4 : Int32) (v6 : Int32) (h : dH) (z7 : Option Value) (z8 : Option Value) (z9 : Option Value), dY shM d mj210 dI (l_X7_change_52 v1 v5 k n v3 v4 v6 h) 52 [some (.ref 0), some (.int v1), some (.int v2), some (.int v3), some (.int v4), some (.int v5), some (.int v6), z7, z8, z9] [] h
  | 0, _, _, _, _, _, _, _ => dY_none
  | n + 1, v3, v4, v6, h, z7, z8, z9 => by
    rw [l_X7_change_52]
    refine y_iload (q := 54) rfl rfl rfl ?_
    refine y_aload_n (q := 55) rfl rfl rfl ?_
    refine y_getI (q := 58) rfl rfl (by decide) atM0 rfl rfl ?_
    refine y_ge (q := 167) (q' := 61) rfl rfl rfl rfl rfl (fun c11 => ?_) (fun c12 => ?_)
    · skip
      refine y_aload_n (q := 62) rfl rfl rfl ?_
      refine y_getR (b := 6) (q := 65) rfl rfl (by decide) atM0 rfl rfl ?_
      refine y_iload (q := 67) rfl rfl rfl ?_
      refine y_guard (fun c13 => ?_)
      refine y_iald (n := 8) (N := 8) (X := v5.toInt) (K := v5.toInt.toNat) (q := 68) hbM rfl atM6 rfl rfl c13 rfl rfl ?_
      refine y_istore (lo' := [some (.ref 0), some (.int v1), some (.int v2), some (.int v3), some (.int v4), some (.int v5), some (.int v6), some (.int (h 6 (v5.toInt.toNat))), z8, z9]) (q := 70) rfl (Nat.le_of_ble_eq_true rfl) rfl rfl ?_
      refine y_aload_n (q := 71) rfl rfl rfl ?_
      refine y_getR (b := 6) (q := 74) rfl rfl (by decide) atM0 rfl rfl ?_
      refine y_iload (q := 76) rfl rfl rfl ?_
      refine y_guard (fun c14 => ?_)
      refine y_iald (n := 8) (N := 8) (X := v6.toInt) (K := v6.toInt.toNat) (q := 77) hbM rfl atM6 rfl rfl c14 rfl rfl ?_
      refine y_istore (lo' := [some (.ref 0), some (.int v1), some (.int v2), some (.int v3), some (.int v4), some (.int v5), some (.int v6), some (.int (h 6 (v5.toInt.toNat))), some (.int (h 6 (v6.toInt.toNat))), z9]) (q := 79) rfl (Nat.le_of_ble_eq_true rfl) rfl rfl ?_
      refine y_iload (q := 81) rfl rfl rfl ?_
      refine y_iconst (x := (-1)) (q := 82) rfl (by decide) rfl ?_
      refine y_eq (q := 161) (q' := 85) rfl rfl (by decide) rfl rfl (fun c15 => ?_) (fun c16 => ?_)
      · skip
        refine y_iinc (z := (v6 + 1)) (lo' := [some (.ref 0), some (.int v1), some (.int v2), some (.int v3), some (.int v4), some (.int v5), some (.int (v6 + 1)), some (.int (h 6 (v5.toInt.toNat))), some (.int (h 6 (v6.toInt.toNat))), z9]) (q := 164) rfl rfl (Nat.le_of_ble_eq_true rfl) (by rw [oi_1]) rfl rfl ?_
        refine y_goto (q := 52) rfl rfl ?_
        exact lz_X7_change_52 hd v1 v2 v5 k hk n v3 v4 (v6 + 1) h (some (.int (h 6 (v5.toInt.toNat)))) (some (.int (h 6 (v6.toInt.toNat)))) (z9)
      · skip
        refine y_iload (q := 87) rfl rfl rfl ?_
        refine y_iconst (x := (-1)) (q := 88) rfl (by decide) rfl ?_
        refine y_eq (q := 161) (q' := 91) rfl rfl (by decide) rfl rfl (fun c17 => ?_) (fun c18 => ?_)
        · skip
          refine y_iinc (z := (v6 + 1)) (lo' := [some (.ref 0), some (.int v1), some (.int v2), some (.int v3), some (.int v4), some (.int v5), some (.int (v6 + 1)), some (.int (h 6 (v5.toInt.toNat))), some (.int (h 6 (v6.toInt.toNat))), z9]) (q := 164) rfl rfl (Nat.le_of_ble_eq_true rfl) (by rw [oi_1]) rfl rfl ?_
          refine y_goto (q := 52) rfl rfl ?_
          exact lz_X7_change_52 hd v1 v2 v5 k hk n v3 v4 (v6 + 1) h (some (.int (h 6 (v5.toInt.toNat)))) (some (.int (h 6 (v6.toInt.toNat)))) (z9)
        · skip
          refine y_iload (q := 93) rfl rfl rfl ?_
          refine y_iload (q := 95) rfl rfl rfl ?_
          refine y_eq (q := 161) (q' := 98) rfl rfl rfl rfl rfl (fun c19 => ?_) (fun c20 => ?_)
          · skip
            refine y_iinc (z := (v6 + 1)) (lo' := [some (.ref 0), some (.int v1), some (.int v2), some (.int v3), some (.int v4), some (.int v5), some (.int (v6 + 1)), some (.int (h 6 (v5.toInt.toNat))), some (.int (h 6 (v6.toInt.toNat))), z9]) (q := 164) rfl rfl (Nat.le_of_ble_eq_true rfl) (by rw [oi_1]) rfl rfl ?_
            refine y_goto (q := 52) rfl rfl ?_
            exact lz_X7_change_52 hd v1 v2 v5 k hk n v3 v4 (v6 + 1) h (some (.int (h 6 (v5.toInt.toNat)))) (some (.int (h 6 (v6.toInt.toNat)))) (z9)
          · skip
            refine y_aload_n (q := 99) rfl rfl rfl ?_
            refine y_getR (b := 6) (q := 102) rfl rfl (by decide) atM0 rfl rfl ?_
            refine y_iload (q := 104) rfl rfl rfl ?_
            refine y_iload (q := 106) rfl rfl rfl ?_
            refine y_guard (fun c22 => ?_)
            refine y_iast (n := 8) (N := 8) (X := v5.toInt) (K := v5.toInt.toNat) (q := 107) rfl atM6 rfl rfl c22 rfl rfl (fun g21 => ?_)
            refine y_aload_n (q := 108) rfl rfl rfl ?_
            refine y_getR (b := 6) (q := 111) rfl rfl (by decide) atM0 rfl rfl ?_
            refine y_iload (q := 113) rfl rfl rfl ?_
            refine y_iload (q := 115) rfl rfl rfl ?_
            refine y_guard (fun c24 => ?_)
            refine y_iast (n := 8) (N := 8) (X := v6.toInt) (K := v6.toInt.toNat) (q := 116) rfl atM6 rfl rfl c24 rfl rfl (fun g23 => ?_)
            refine y_aload_n (q := 117) rfl rfl rfl ?_
            refine y_iload_n (q := 118) rfl rfl rfl ?_
            refine y_callI (I := .invokevirtual 425) (idx := 425) (KD := 1) (J := 217) (mj := mj207) (as := [.ref 0, .int v1]) (r := []) (q := 121) rfl (fun _ _ _ _ _ _ => rfl) rfl (by decide) rfl rfl rfl rfl rfl (Nat.le_of_ble_eq_true rfl) (d_recv atM0 (by decide) (by decide)) rfl (m_X7_friendsBehind (Nat.le_trans (by decide) hd) v1 g23) (fun r25 g26 => ?_)
            refine y_istore (lo' := [some (.ref 0), some (.int v1), some (.int v2), some (.int v3), some (.int v4), some (.int v5), some (.int v6), some (.int (h 6 (v5.toInt.toNat))), some (.int (h 6 (v6.toInt.toNat))), some (.int r25)]) (q := 123) rfl (Nat.le_of_ble_eq_true rfl) rfl rfl ?_
            refine y_aload_n (q := 124) rfl rfl rfl ?_
            refine y_getR (b := 6) (q := 127) rfl rfl (by decide) atM0 rfl rfl ?_
            refine y_iload (q := 129) rfl rfl rfl ?_
            refine y_iload (q := 131) rfl rfl rfl ?_
            refine y_guard (fun c28 => ?_)
            refine y_iast (n := 8) (N := 8) (X := v5.toInt) (K := v5.toInt.toNat) (q := 132) rfl atM6 rfl rfl c28 rfl rfl (fun g27 => ?_)
            refine y_aload_n (q := 133) rfl rfl rfl ?_
            refine y_getR (b := 6) (q := 136) rfl rfl (by decide) atM0 rfl rfl ?_
            refine y_iload (q := 138) rfl rfl rfl ?_
            refine y_iload (q := 140) rfl rfl rfl ?_
            refine y_guard (fun c30 => ?_)
            refine y_iast (n := 8) (N := 8) (X := v6.toInt) (K := v6.toInt.toNat) (q := 141) rfl atM6 rfl rfl c30 rfl rfl (fun g29 => ?_)
            refine y_iload (q := 143) rfl rfl rfl ?_
            refine y_iload (q := 145) rfl rfl rfl ?_
            refine y_le (q := 161) (q' := 148) rfl rfl rfl rfl rfl (fun c31 => ?_) (fun c32 => ?_)
            · skip
              refine y_bipush (x := 10) (q := 150) rfl (by decide) rfl ?_
              refine y_iload (q := 152) rfl rfl rfl ?_
              refine y_imul (q := 153) rfl rfl ?_
              refine y_iload (q := 155) rfl rfl rfl ?_
              refine y_iadd (q := 156) rfl rfl ?_
              refine y_istore_n (lo' := [some (.ref 0), some (.int v1), some (.int v2), some (.int ((10 * v5) + v6)), some (.int v4), some (.int v5), some (.int v6), some (.int (h 6 (v5.toInt.toNat))), some (.int (h 6 (v6.toInt.toNat))), some (.int r25)]) (q := 157) rfl (Nat.le_of_ble_eq_true rfl) rfl rfl ?_
              refine y_iload (q := 159) rfl rfl rfl ?_
              refine y_istore (lo' := [some (.ref 0), some (.int v1), some (.int v2), some (.int ((10 * v5) + v6)), some (.int r25), some (.int v5), some (.int v6), some (.int (h 6 (v5.toInt.toNat))), some (.int (h 6 (v6.toInt.toNat))), some (.int r25)]) (q := 161) rfl (Nat.le_of_ble_eq_true rfl) rfl rfl ?_
              refine y_iinc (z := (v6 + 1)) (lo' := [some (.ref 0), some (.int v1), some (.int v2), some (.int ((10 * v5) + v6)), some (.int r25), some (.int v5), some (.int (v6 + 1)), some (.int (h 6 (v5.toInt.toNat))), some (.int (h 6 (v6.toInt.toNat))), some (.int r25)]) (q := 164) rfl rfl (Nat.le_of_ble_eq_true rfl) (by rw [oi_1]) rfl rfl ?_
              refine y_goto (q := 52) rfl rfl ?_
              exact lz_X7_change_52 hd v1 v2 v5 k hk n ((10 * v5) + v6) r25 (v6 + 1) g29 (some (.int (h 6 (v5.toInt.toNat)))) (some (.int (h 6 (v6.toInt.toNat)))) (some (.int r25))
            · skip
              refine y_iinc (z := (v6 + 1)) (lo' := [some (.ref 0), some (.int v1), some (.int v2), some (.int v3), some (.int v4), some (.int v5), some (.int (v6 + 1)), some (.int (h 6 (v5.toInt.toNat))), some (.int (h 6 (v6.toInt.toNat))), some (.int r25)]) (q := 164) rfl rfl (Nat.le_of_ble_eq_true rfl) (by rw [oi_1]) rfl rfl ?_
              refine y_goto (q := 52) rfl rfl ?_
              exact lz_X7_change_52 hd v1 v2 v5 k hk n v3 v4 (v6 + 1) g29 (some (.int (h 6 (v5.toInt.toNat)))) (some (.int (h 6 (v6.toInt.toNat)))) (some (.int r25))
    · skip
      exact hk v3 v4 v6 (z7) (z8) (z9) h
def l_X7_change_37 (v1 : Int32) (k : Int32 → Int32 → dH → Option (Int32 × dH)) : Nat → Int32 → Int32 → Int32 → dH → Option (Int32 × dH)
  | 0, _, _, _, _ => none
  | n + 1, v3, v4, v5, h => if v5.toInt < (h 0 13).toInt then (l_X7_change_52 v1 v5  (fun v3_33 v4_34 g39 => l_X7_change_37 v1 k n v3_33 v4_34 (v5 + 1) g39) fuel0 v3 v4 (v5 + 1) h) else (k v3 v4 h)
theorem lz_X7_change_37 {d : Nat} (hd : 47 ≤ d) (v1 : Int32) (v2 : Int32) (k : Int32 → Int32 → dH → Option (Int32 × dH)) (hk : ∀ (v3 : Int32) (v4 : Int32) (w5 : Int32) (z6 : Option Value) (z7 : Option Value) (z8 : Option Value) (z9 : Option Value) (h : dH), dY shM d mj210 dI (k v3 v4 h) 173 [some (.ref 0), some (.int v1), some (.int v2), some (.int v3), some (.int v4), some (.int w5), z6, z7, z8, z9] [] h) : ∀ (n : Nat) (v3 : Int32) (v4 : Int32) (v5 : Int32) (h : dH) (z6 : Option Value) (z7 : Option Value) (z8 : Option Value) (z9 : Option Value), dY shM d mj210 dI (l_X7_change_37 v1 k n v3 v4 v5 h) 37 [some (.ref 0), some (.int v1), some (.int v2), some (.int v3), some (.int v4), some (.int v5), z6, z7, z8, z9] [] h
  | 0, _, _, _, _, _, _, _, _ => dY_none
  | n + 1, v3, v4, v5, h, z6, z7, z8, z9 => by
    rw [l_X7_change_37]
    refine y_iload (q := 39) rfl rfl rfl ?_
    refine y_aload_n (q := 40) rfl rfl rfl ?_
    refine y_getI (q := 43) rfl rfl (by decide) atM0 rfl rfl ?_
    refine y_ge (q := 173) (q' := 46) rfl rfl rfl rfl rfl (fun c9 => ?_) (fun c10 => ?_)
    · skip
      refine y_iload (q := 48) rfl rfl rfl ?_
      refine y_iconst (x := 1) (q := 49) rfl (by decide) rfl ?_
      refine y_iadd (q := 50) rfl rfl ?_
      refine y_istore (lo' := [some (.ref 0), some (.int v1), some (.int v2), some (.int v3), some (.int v4), some (.int v5), some (.int (v5 + 1)), z7, z8, z9]) (q := 52) rfl (Nat.le_of_ble_eq_true rfl) rfl rfl ?_
      refine lz_X7_change_52 hd v1 v2 v5  _ (fun v3_33 v4_34 z35 z36 z37 z38 g39 => ?_) fuel0 v3 v4 (v5 + 1) h (z7) (z8) (z9)
      refine y_iinc (z := (v5 + 1)) (lo' := [some (.ref 0), some (.int v1), some (.int v2), some (.int v3_33), some (.int v4_34), some (.int (v5 + 1)), some (.int z35), z36, z37, z38]) (q := 170) rfl rfl (Nat.le_of_ble_eq_true rfl) (by rw [oi_1]) rfl rfl ?_
      refine y_goto (q := 37) rfl rfl ?_
      exact lz_X7_change_37 hd v1 v2 k hk n v3_33 v4_34 (v5 + 1) g39 (some (.int z35)) (z36) (z37) (z38)
    · skip
      exact hk v3 v4 v5 (z6) (z7) (z8) (z9) h
def f_X7_change (v1 : Int32) (v2 : Int32) (h : dH) : Option (Int32 × dH) := oP (f_X7_in (v1.toInt64) 0 20) (fun r1 => if r1.toInt = 0 then (some ((-2), h)) else (oP (f_X7_in (v2.toInt64) 0 1) (fun r4 => if r4.toInt = 0 then (some ((-2), h)) else (oI (f_X7_friendsBehind v1 h) (fun r7 g8 => l_X7_change_37 v1  (fun v3_40 v4_41 g47 => if v2.toInt = 0 then (some (v3_40, g47)) else (some (v4_41, g47))) fuel0 (-1) r7 0 g8)))))
theorem m_X7_change {d : Nat} (hd : 48 ≤ d) (v1 : Int32) (v2 : Int32) (h : dH) : dX shM d 210 [.ref 0, .int v1, .int v2] dI (f_X7_change v1 v2 h) h := by
  obtain ⟨e, rfl⟩ : ∃ e, d = e + 1 := ⟨d - 1, by omega⟩
  have hd : 47 ≤ e := by omega
  refine dX_of (mj := mj210) (lo := [some (.ref 0), some (.int v1), some (.int v2), none, none, none, none, none, none, none]) rfl (Nat.le_of_ble_eq_true rfl) rfl ?_
  unfold f_X7_change
  refine y_iload_n (q := 1) rfl rfl rfl ?_
  refine y_i2l (q := 2) rfl rfl ?_
  refine y_lconst (u := 0) (q := 3) rfl (by decide) rfl ?_
  refine y_ldc2_w (u := 20) (q := 6) rfl rfl rfl ?_
  refine y_callP (I := .invokestatic 91) (idx := 91) (KD := 0) (J := 128) (mj := mj118) (as := [.long v1.toInt64, .long 0, .long 20]) (r := []) (q := 9) rfl (fun _ _ _ _ _ _ => rfl) rfl (by decide) rfl rfl rfl rfl rfl (Nat.le_of_ble_eq_true rfl) rfl rfl (m_X7_in (Nat.le_trans (by decide) hd) (v1.toInt64) 0 20 h) (fun r1 => ?_)
  refine y_eq0 (q := 22) (q' := 12) rfl rfl rfl rfl (fun c2 => ?_) (fun c3 => ?_)
  · skip
    refine y_bipush (x := (-2)) (q := 24) rfl (by decide) rfl ?_
    exact y_retI rfl (by decide) rfl rfl
  · skip
    refine y_iload_n (q := 13) rfl rfl rfl ?_
    refine y_i2l (q := 14) rfl rfl ?_
    refine y_lconst (u := 0) (q := 15) rfl (by decide) rfl ?_
    refine y_lconst (u := 1) (q := 16) rfl (by decide) rfl ?_
    refine y_callP (I := .invokestatic 91) (idx := 91) (KD := 0) (J := 128) (mj := mj118) (as := [.long v2.toInt64, .long 0, .long 1]) (r := []) (q := 19) rfl (fun _ _ _ _ _ _ => rfl) rfl (by decide) rfl rfl rfl rfl rfl (Nat.le_of_ble_eq_true rfl) rfl rfl (m_X7_in (Nat.le_trans (by decide) hd) (v2.toInt64) 0 1 h) (fun r4 => ?_)
    refine y_ne0 (q := 25) (q' := 22) rfl rfl rfl rfl (fun c5 => ?_) (fun c6 => ?_)
    · skip
      refine y_bipush (x := (-2)) (q := 24) rfl (by decide) rfl ?_
      exact y_retI rfl (by decide) rfl rfl
    · skip
      refine y_iconst (x := (-1)) (q := 26) rfl (by decide) rfl ?_
      refine y_istore_n (lo' := [some (.ref 0), some (.int v1), some (.int v2), some (.int (-1)), none, none, none, none, none, none]) (q := 27) rfl (Nat.le_of_ble_eq_true rfl) rfl rfl ?_
      refine y_aload_n (q := 28) rfl rfl rfl ?_
      refine y_iload_n (q := 29) rfl rfl rfl ?_
      refine y_callI (I := .invokevirtual 425) (idx := 425) (KD := 1) (J := 217) (mj := mj207) (as := [.ref 0, .int v1]) (r := []) (q := 32) rfl (fun _ _ _ _ _ _ => rfl) rfl (by decide) rfl rfl rfl rfl rfl (Nat.le_of_ble_eq_true rfl) (d_recv atM0 (by decide) (by decide)) rfl (m_X7_friendsBehind (Nat.le_trans (by decide) hd) v1 h) (fun r7 g8 => ?_)
      refine y_istore (lo' := [some (.ref 0), some (.int v1), some (.int v2), some (.int (-1)), some (.int r7), none, none, none, none, none]) (q := 34) rfl (Nat.le_of_ble_eq_true rfl) rfl rfl ?_
      refine y_iconst (x := 0) (q := 35) rfl (by decide) rfl ?_
      refine y_istore (lo' := [some (.ref 0), some (.int v1), some (.int v2), some (.int (-1)), some (.int r7), some (.int 0), none, none, none, none]) (q := 37) rfl (Nat.le_of_ble_eq_true rfl) rfl rfl ?_
      refine lz_X7_change_37 hd v1 v2  _ (fun v3_40 v4_41 z42 z43 z44 z45 z46 g47 => ?_) fuel0 (-1) r7 0 g8 (none) (none) (none) (none)
      refine y_iload_n (q := 174) rfl rfl rfl ?_
      refine y_ne0 (q := 181) (q' := 177) rfl rfl rfl rfl (fun c48 => ?_) (fun c49 => ?_)
      · skip
        refine y_iload_n (q := 178) rfl rfl rfl ?_
        refine y_goto (q := 183) rfl rfl ?_
        exact y_retI rfl (by decide) rfl rfl
      · skip
        refine y_iload (q := 183) rfl rfl rfl ?_
        exact y_retI rfl (by decide) rfl rfl
def l_X7_clears_2  (k : dH → Option (dH)) : Nat → Int32 → dH → Option (dH)
  | 0, _, _ => none
  | n + 1, v1, h => if v1.toInt < (h 0 13).toInt then (if 0 ≤ v1.toInt ∧ v1.toInt < 8 then (if 0 ≤ v1.toInt ∧ v1.toInt < 8 then (oH (dU h 10 (v1.toInt.toNat) (h 6 (v1.toInt.toNat))) (fun g4 => l_X7_clears_2  k n (v1 + 1) g4)) else none) else none) else (k  h)
theorem lz_X7_clears_2 {d : Nat} (hd : 0 ≤ d)  (k : dH → Option (dH)) (hk : ∀ (w1 : Int32) (h : dH), dY shM d mj211 dV (k h) 28 [some (.ref 0), some (.int w1)] [] h) : ∀ (n : Nat) (v1 : Int32) (h : dH), dY shM d mj211 dV (l_X7_clears_2  k n v1 h) 2 [some (.ref 0), some (.int v1)] [] h
  | 0, _, _ => dY_none
  | n + 1, v1, h => by
    rw [l_X7_clears_2]
    refine y_iload_n (q := 3) rfl rfl rfl ?_
    refine y_aload_n (q := 4) rfl rfl rfl ?_
    refine y_getI (q := 7) rfl rfl (by decide) atM0 rfl rfl ?_
    refine y_ge (q := 28) (q' := 10) rfl rfl rfl rfl rfl (fun c1 => ?_) (fun c2 => ?_)
    · skip
      refine y_aload_n (q := 11) rfl rfl rfl ?_
      refine y_getR (b := 10) (q := 14) rfl rfl (by decide) atM0 rfl rfl ?_
      refine y_iload_n (q := 15) rfl rfl rfl ?_
      refine y_aload_n (q := 16) rfl rfl rfl ?_
      refine y_getR (b := 6) (q := 19) rfl rfl (by decide) atM0 rfl rfl ?_
      refine y_iload_n (q := 20) rfl rfl rfl ?_
      refine y_guard (fun c3 => ?_)
      refine y_iald (n := 8) (N := 8) (X := v1.toInt) (K := v1.toInt.toNat) (q := 21) hbM rfl atM6 rfl rfl c3 rfl rfl ?_
      refine y_guard (fun c5 => ?_)
      refine y_iast (n := 8) (N := 8) (X := v1.toInt) (K := v1.toInt.toNat) (q := 22) rfl atM10 rfl rfl c5 rfl rfl (fun g4 => ?_)
      refine y_iinc (z := (v1 + 1)) (lo' := [some (.ref 0), some (.int (v1 + 1))]) (q := 25) rfl rfl (Nat.le_of_ble_eq_true rfl) (by rw [oi_1]) rfl rfl ?_
      refine y_goto (q := 2) rfl rfl ?_
      exact lz_X7_clears_2 hd  k hk n (v1 + 1) g4 
    · skip
      exact hk  v1 h
def f_X7_clears  (h : dH) : Option (dH) := l_X7_clears_2   (fun g7 => some g7) fuel0 0 h
theorem m_X7_clears {d : Nat} (hd : 1 ≤ d)  (h : dH) : dX shM d 211 [.ref 0] dV (f_X7_clears  h) h := by
  obtain ⟨e, rfl⟩ : ∃ e, d = e + 1 := ⟨d - 1, by omega⟩
  have hd : 0 ≤ e := by omega
  refine dX_of (mj := mj211) (lo := [some (.ref 0), none]) rfl (Nat.le_of_ble_eq_true rfl) rfl ?_
  unfold f_X7_clears
  refine y_iconst (x := 0) (q := 1) rfl (by decide) rfl ?_
  refine y_istore_n (lo' := [some (.ref 0), some (.int 0)]) (q := 2) rfl (Nat.le_of_ble_eq_true rfl) rfl rfl ?_
  refine lz_X7_clears_2 hd   _ (fun z6 g7 => ?_) fuel0 0 h 
  exact y_retV rfl rfl rfl
def l_X7_sitsAgain_2  (k : dH → Option (dH)) : Nat → Int32 → dH → Option (dH)
  | 0, _, _ => none
  | n + 1, v1, h => if v1.toInt < (h 0 13).toInt then (if 0 ≤ v1.toInt ∧ v1.toInt < 8 then (if 0 ≤ v1.toInt ∧ v1.toInt < 8 then (oH (dU h 6 (v1.toInt.toNat) (h 10 (v1.toInt.toNat))) (fun g4 => l_X7_sitsAgain_2  k n (v1 + 1) g4)) else none) else none) else (k  h)
theorem lz_X7_sitsAgain_2 {d : Nat} (hd : 0 ≤ d)  (k : dH → Option (dH)) (hk : ∀ (w1 : Int32) (h : dH), dY shM d mj212 dV (k h) 28 [some (.ref 0), some (.int w1)] [] h) : ∀ (n : Nat) (v1 : Int32) (h : dH), dY shM d mj212 dV (l_X7_sitsAgain_2  k n v1 h) 2 [some (.ref 0), some (.int v1)] [] h
  | 0, _, _ => dY_none
  | n + 1, v1, h => by
    rw [l_X7_sitsAgain_2]
    refine y_iload_n (q := 3) rfl rfl rfl ?_
    refine y_aload_n (q := 4) rfl rfl rfl ?_
    refine y_getI (q := 7) rfl rfl (by decide) atM0 rfl rfl ?_
    refine y_ge (q := 28) (q' := 10) rfl rfl rfl rfl rfl (fun c1 => ?_) (fun c2 => ?_)
    · skip
      refine y_aload_n (q := 11) rfl rfl rfl ?_
      refine y_getR (b := 6) (q := 14) rfl rfl (by decide) atM0 rfl rfl ?_
      refine y_iload_n (q := 15) rfl rfl rfl ?_
      refine y_aload_n (q := 16) rfl rfl rfl ?_
      refine y_getR (b := 10) (q := 19) rfl rfl (by decide) atM0 rfl rfl ?_
      refine y_iload_n (q := 20) rfl rfl rfl ?_
      refine y_guard (fun c3 => ?_)
      refine y_iald (n := 8) (N := 8) (X := v1.toInt) (K := v1.toInt.toNat) (q := 21) hbM rfl atM10 rfl rfl c3 rfl rfl ?_
      refine y_guard (fun c5 => ?_)
      refine y_iast (n := 8) (N := 8) (X := v1.toInt) (K := v1.toInt.toNat) (q := 22) rfl atM6 rfl rfl c5 rfl rfl (fun g4 => ?_)
      refine y_iinc (z := (v1 + 1)) (lo' := [some (.ref 0), some (.int (v1 + 1))]) (q := 25) rfl rfl (Nat.le_of_ble_eq_true rfl) (by rw [oi_1]) rfl rfl ?_
      refine y_goto (q := 2) rfl rfl ?_
      exact lz_X7_sitsAgain_2 hd  k hk n (v1 + 1) g4 
    · skip
      exact hk  v1 h
def f_X7_sitsAgain  (h : dH) : Option (dH) := l_X7_sitsAgain_2   (fun g7 => some g7) fuel0 0 h
theorem m_X7_sitsAgain {d : Nat} (hd : 1 ≤ d)  (h : dH) : dX shM d 212 [.ref 0] dV (f_X7_sitsAgain  h) h := by
  obtain ⟨e, rfl⟩ : ∃ e, d = e + 1 := ⟨d - 1, by omega⟩
  have hd : 0 ≤ e := by omega
  refine dX_of (mj := mj212) (lo := [some (.ref 0), none]) rfl (Nat.le_of_ble_eq_true rfl) rfl ?_
  unfold f_X7_sitsAgain
  refine y_iconst (x := 0) (q := 1) rfl (by decide) rfl ?_
  refine y_istore_n (lo' := [some (.ref 0), some (.int 0)]) (q := 2) rfl (Nat.le_of_ble_eq_true rfl) rfl rfl ?_
  refine lz_X7_sitsAgain_2 hd   _ (fun z6 g7 => ?_) fuel0 0 h 
  exact y_retV rfl rfl rfl
def l_X7_split_51 (v5 : Int32) (k : dH → Option (Int32 × dH)) : Nat → Int32 → dH → Option (Int32 × dH)
  | 0, _, _ => none
  | n + 1, v6, h => if v6.toInt < (h 0 13).toInt then (if 0 ≤ v6.toInt ∧ v6.toInt < 8 then (oH (dU h 6 (v6.toInt.toNat) ((dshr v5 v6) &&& 1)) (fun g12 => l_X7_split_51 v5 k n (v6 + 1) g12)) else none) else (k  h)
theorem lz_X7_split_51 {d : Nat} (hd : 47 ≤ d) (v1 : Int32) (v2 : Int32) (v3 : Int32) (v4 : Int32) (v5 : Int32) (k : dH → Option (Int32 × dH)) (hk : ∀ (w6 : Int32) (h : dH), dY shM d mj213 dI (k h) 80 [some (.ref 0), some (.int v1), some (.int v2), some (.int v3), some (.int v4), some (.int v5), some (.int w6)] [] h) : ∀ (n : Nat) (v6 : Int32) (h : dH), dY shM d mj213 dI (l_X7_split_51 v5 k n v6 h) 51 [some (.ref 0), some (.int v1), some (.int v2), some (.int v3), some (.int v4), some (.int v5), some (.int v6)] [] h
  | 0, _, _ => dY_none
  | n + 1, v6, h => by
    rw [l_X7_split_51]
    refine y_iload (q := 53) rfl rfl rfl ?_
    refine y_aload_n (q := 54) rfl rfl rfl ?_
    refine y_getI (q := 57) rfl rfl (by decide) atM0 rfl rfl ?_
    refine y_ge (q := 80) (q' := 60) rfl rfl rfl rfl rfl (fun c10 => ?_) (fun c11 => ?_)
    · skip
      refine y_aload_n (q := 61) rfl rfl rfl ?_
      refine y_getR (b := 6) (q := 64) rfl rfl (by decide) atM0 rfl rfl ?_
      refine y_iload (q := 66) rfl rfl rfl ?_
      refine y_iload (q := 68) rfl rfl rfl ?_
      refine y_iload (q := 70) rfl rfl rfl ?_
      refine y_ishr (q := 71) rfl rfl ?_
      refine y_iconst (x := 1) (q := 72) rfl (by decide) rfl ?_
      refine y_iand (q := 73) rfl rfl ?_
      refine y_guard (fun c13 => ?_)
      refine y_iast (n := 8) (N := 8) (X := v6.toInt) (K := v6.toInt.toNat) (q := 74) rfl atM6 rfl rfl c13 rfl rfl (fun g12 => ?_)
      refine y_iinc (z := (v6 + 1)) (lo' := [some (.ref 0), some (.int v1), some (.int v2), some (.int v3), some (.int v4), some (.int v5), some (.int (v6 + 1))]) (q := 77) rfl rfl (Nat.le_of_ble_eq_true rfl) (by rw [oi_1]) rfl rfl ?_
      refine y_goto (q := 51) rfl rfl ?_
      exact lz_X7_split_51 hd v1 v2 v3 v4 v5 k hk n (v6 + 1) g12 
    · skip
      exact hk  v6 h
def l_X7_split_37 (v1 : Int32) (k : Int32 → Int32 → dH → Option (Int32 × dH)) : Nat → Int32 → Int32 → Int32 → dH → Option (Int32 × dH)
  | 0, _, _, _, _ => none
  | n + 1, v3, v4, v5, h => if v5.toInt < (dshl 1 (h 0 13)).toInt then (l_X7_split_51 v5  (fun g15 => oI (f_X7_friendsBehind v1 g15) (fun r16 g17 => if v4.toInt < r16.toInt then (l_X7_split_37 v1 k n v5 r16 (v5 + 1) g17) else (l_X7_split_37 v1 k n v3 v4 (v5 + 1) g17))) fuel0 0 h) else (k v3 v4 h)
theorem lz_X7_split_37 {d : Nat} (hd : 47 ≤ d) (v1 : Int32) (v2 : Int32) (k : Int32 → Int32 → dH → Option (Int32 × dH)) (hk : ∀ (v3 : Int32) (v4 : Int32) (w5 : Int32) (z6 : Option Value) (h : dH), dY shM d mj213 dI (k v3 v4 h) 107 [some (.ref 0), some (.int v1), some (.int v2), some (.int v3), some (.int v4), some (.int w5), z6] [] h) : ∀ (n : Nat) (v3 : Int32) (v4 : Int32) (v5 : Int32) (h : dH) (z6 : Option Value), dY shM d mj213 dI (l_X7_split_37 v1 k n v3 v4 v5 h) 37 [some (.ref 0), some (.int v1), some (.int v2), some (.int v3), some (.int v4), some (.int v5), z6] [] h
  | 0, _, _, _, _, _ => dY_none
  | n + 1, v3, v4, v5, h, z6 => by
    rw [l_X7_split_37]
    refine y_iload (q := 39) rfl rfl rfl ?_
    refine y_iconst (x := 1) (q := 40) rfl (by decide) rfl ?_
    refine y_aload_n (q := 41) rfl rfl rfl ?_
    refine y_getI (q := 44) rfl rfl (by decide) atM0 rfl rfl ?_
    refine y_ishl (q := 45) rfl rfl ?_
    refine y_ge (q := 107) (q' := 48) rfl rfl rfl rfl rfl (fun c8 => ?_) (fun c9 => ?_)
    · skip
      refine y_iconst (x := 0) (q := 49) rfl (by decide) rfl ?_
      refine y_istore (lo' := [some (.ref 0), some (.int v1), some (.int v2), some (.int v3), some (.int v4), some (.int v5), some (.int 0)]) (q := 51) rfl (Nat.le_of_ble_eq_true rfl) rfl rfl ?_
      refine lz_X7_split_51 hd v1 v2 v3 v4 v5  _ (fun z14 g15 => ?_) fuel0 0 h 
      refine y_aload_n (q := 81) rfl rfl rfl ?_
      refine y_iload_n (q := 82) rfl rfl rfl ?_
      refine y_callI (I := .invokevirtual 425) (idx := 425) (KD := 1) (J := 217) (mj := mj207) (as := [.ref 0, .int v1]) (r := []) (q := 85) rfl (fun _ _ _ _ _ _ => rfl) rfl (by decide) rfl rfl rfl rfl rfl (Nat.le_of_ble_eq_true rfl) (d_recv atM0 (by decide) (by decide)) rfl (m_X7_friendsBehind (Nat.le_trans (by decide) hd) v1 g15) (fun r16 g17 => ?_)
      refine y_istore (lo' := [some (.ref 0), some (.int v1), some (.int v2), some (.int v3), some (.int v4), some (.int v5), some (.int r16)]) (q := 87) rfl (Nat.le_of_ble_eq_true rfl) rfl rfl ?_
      refine y_iload (q := 89) rfl rfl rfl ?_
      refine y_iload (q := 91) rfl rfl rfl ?_
      refine y_le (q := 101) (q' := 94) rfl rfl rfl rfl rfl (fun c18 => ?_) (fun c19 => ?_)
      · skip
        refine y_iload (q := 96) rfl rfl rfl ?_
        refine y_istore_n (lo' := [some (.ref 0), some (.int v1), some (.int v2), some (.int v5), some (.int v4), some (.int v5), some (.int r16)]) (q := 97) rfl (Nat.le_of_ble_eq_true rfl) rfl rfl ?_
        refine y_iload (q := 99) rfl rfl rfl ?_
        refine y_istore (lo' := [some (.ref 0), some (.int v1), some (.int v2), some (.int v5), some (.int r16), some (.int v5), some (.int r16)]) (q := 101) rfl (Nat.le_of_ble_eq_true rfl) rfl rfl ?_
        refine y_iinc (z := (v5 + 1)) (lo' := [some (.ref 0), some (.int v1), some (.int v2), some (.int v5), some (.int r16), some (.int (v5 + 1)), some (.int r16)]) (q := 104) rfl rfl (Nat.le_of_ble_eq_true rfl) (by rw [oi_1]) rfl rfl ?_
        refine y_goto (q := 37) rfl rfl ?_
        exact lz_X7_split_37 hd v1 v2 k hk n v5 r16 (v5 + 1) g17 (some (.int r16))
      · skip
        refine y_iinc (z := (v5 + 1)) (lo' := [some (.ref 0), some (.int v1), some (.int v2), some (.int v3), some (.int v4), some (.int (v5 + 1)), some (.int r16)]) (q := 104) rfl rfl (Nat.le_of_ble_eq_true rfl) (by rw [oi_1]) rfl rfl ?_
        refine y_goto (q := 37) rfl rfl ?_
        exact lz_X7_split_37 hd v1 v2 k hk n v3 v4 (v5 + 1) g17 (some (.int r16))
    · skip
      exact hk v3 v4 v5 (z6) h
def f_X7_split (v1 : Int32) (v2 : Int32) (h : dH) : Option (Int32 × dH) := oP (f_X7_in (v1.toInt64) 0 2) (fun r1 => if r1.toInt = 0 then (some ((-2), h)) else (oP (f_X7_in (v2.toInt64) 0 1) (fun r4 => if r4.toInt = 0 then (some ((-2), h)) else (oV (f_X7_clears  h) (fun g7 => l_X7_split_37 v1  (fun v3_20 v4_21 g24 => oV (f_X7_sitsAgain  g24) (fun g25 => if v2.toInt = 0 then (some (v3_20, g25)) else (some (v4_21, g25)))) fuel0 0 (-1) 0 g7)))))
theorem m_X7_split {d : Nat} (hd : 48 ≤ d) (v1 : Int32) (v2 : Int32) (h : dH) : dX shM d 213 [.ref 0, .int v1, .int v2] dI (f_X7_split v1 v2 h) h := by
  obtain ⟨e, rfl⟩ : ∃ e, d = e + 1 := ⟨d - 1, by omega⟩
  have hd : 47 ≤ e := by omega
  refine dX_of (mj := mj213) (lo := [some (.ref 0), some (.int v1), some (.int v2), none, none, none, none]) rfl (Nat.le_of_ble_eq_true rfl) rfl ?_
  unfold f_X7_split
  refine y_iload_n (q := 1) rfl rfl rfl ?_
  refine y_i2l (q := 2) rfl rfl ?_
  refine y_lconst (u := 0) (q := 3) rfl (by decide) rfl ?_
  refine y_ldc2_w (u := 2) (q := 6) rfl rfl rfl ?_
  refine y_callP (I := .invokestatic 91) (idx := 91) (KD := 0) (J := 128) (mj := mj118) (as := [.long v1.toInt64, .long 0, .long 2]) (r := []) (q := 9) rfl (fun _ _ _ _ _ _ => rfl) rfl (by decide) rfl rfl rfl rfl rfl (Nat.le_of_ble_eq_true rfl) rfl rfl (m_X7_in (Nat.le_trans (by decide) hd) (v1.toInt64) 0 2 h) (fun r1 => ?_)
  refine y_eq0 (q := 22) (q' := 12) rfl rfl rfl rfl (fun c2 => ?_) (fun c3 => ?_)
  · skip
    refine y_bipush (x := (-2)) (q := 24) rfl (by decide) rfl ?_
    exact y_retI rfl (by decide) rfl rfl
  · skip
    refine y_iload_n (q := 13) rfl rfl rfl ?_
    refine y_i2l (q := 14) rfl rfl ?_
    refine y_lconst (u := 0) (q := 15) rfl (by decide) rfl ?_
    refine y_lconst (u := 1) (q := 16) rfl (by decide) rfl ?_
    refine y_callP (I := .invokestatic 91) (idx := 91) (KD := 0) (J := 128) (mj := mj118) (as := [.long v2.toInt64, .long 0, .long 1]) (r := []) (q := 19) rfl (fun _ _ _ _ _ _ => rfl) rfl (by decide) rfl rfl rfl rfl rfl (Nat.le_of_ble_eq_true rfl) rfl rfl (m_X7_in (Nat.le_trans (by decide) hd) (v2.toInt64) 0 1 h) (fun r4 => ?_)
    refine y_ne0 (q := 25) (q' := 22) rfl rfl rfl rfl (fun c5 => ?_) (fun c6 => ?_)
    · skip
      refine y_bipush (x := (-2)) (q := 24) rfl (by decide) rfl ?_
      exact y_retI rfl (by decide) rfl rfl
    · skip
      refine y_aload_n (q := 26) rfl rfl rfl ?_
      refine y_callV (I := .invokevirtual 430) (idx := 430) (KD := 1) (J := 221) (mj := mj211) (as := [.ref 0]) (r := []) (q := 29) rfl (fun _ _ _ _ _ _ => rfl) rfl (by decide) rfl rfl rfl rfl rfl (Nat.le_of_ble_eq_true rfl) (d_recv atM0 (by decide) (by decide)) rfl (m_X7_clears (Nat.le_trans (by decide) hd)  h) (fun g7 => ?_)
      refine y_iconst (x := 0) (q := 30) rfl (by decide) rfl ?_
      refine y_istore_n (lo' := [some (.ref 0), some (.int v1), some (.int v2), some (.int 0), none, none, none]) (q := 31) rfl (Nat.le_of_ble_eq_true rfl) rfl rfl ?_
      refine y_iconst (x := (-1)) (q := 32) rfl (by decide) rfl ?_
      refine y_istore (lo' := [some (.ref 0), some (.int v1), some (.int v2), some (.int 0), some (.int (-1)), none, none]) (q := 34) rfl (Nat.le_of_ble_eq_true rfl) rfl rfl ?_
      refine y_iconst (x := 0) (q := 35) rfl (by decide) rfl ?_
      refine y_istore (lo' := [some (.ref 0), some (.int v1), some (.int v2), some (.int 0), some (.int (-1)), some (.int 0), none]) (q := 37) rfl (Nat.le_of_ble_eq_true rfl) rfl rfl ?_
      refine lz_X7_split_37 hd v1 v2  _ (fun v3_20 v4_21 z22 z23 g24 => ?_) fuel0 0 (-1) 0 g7 (none)
      refine y_aload_n (q := 108) rfl rfl rfl ?_
      refine y_callV (I := .invokevirtual 433) (idx := 433) (KD := 1) (J := 222) (mj := mj212) (as := [.ref 0]) (r := []) (q := 111) rfl (fun _ _ _ _ _ _ => rfl) rfl (by decide) rfl rfl rfl rfl rfl (Nat.le_of_ble_eq_true rfl) (d_recv atM0 (by decide) (by decide)) rfl (m_X7_sitsAgain (Nat.le_trans (by decide) hd)  g24) (fun g25 => ?_)
      refine y_iload_n (q := 112) rfl rfl rfl ?_
      refine y_ne0 (q := 119) (q' := 115) rfl rfl rfl rfl (fun c26 => ?_) (fun c27 => ?_)
      · skip
        refine y_iload_n (q := 116) rfl rfl rfl ?_
        refine y_goto (q := 121) rfl rfl ?_
        exact y_retI rfl (by decide) rfl rfl
      · skip
        refine y_iload (q := 121) rfl rfl rfl ?_
        exact y_retI rfl (by decide) rfl rfl
def l_X7_missed_20  (k : Int32 → Int32 → dH → Option (Int32 × dH)) : Nat → Int32 → Int32 → Int32 → dH → Option (Int32 × dH)
  | 0, _, _, _, _ => none
  | n + 1, v2, v3, v4, h => if v4.toInt < (h 0 13).toInt then (oH (dU h 0 31 v4) (fun g6 => oV (f_X7_waysAll  g6) (fun g7 => oP (f_X7_companies  g7) (fun r8 => oH (dU g7 0 31 (-1)) (fun g9 => if v3.toInt < r8.toInt then (l_X7_missed_20  k n v4 r8 (v4 + 1) g9) else (l_X7_missed_20  k n v2 v3 (v4 + 1) g9)))))) else (k v2 v3 h)
theorem lz_X7_missed_20 {d : Nat} (hd : 3 ≤ d) (v1 : Int32) (k : Int32 → Int32 → dH → Option (Int32 × dH)) (hk : ∀ (v2 : Int32) (v3 : Int32) (w4 : Int32) (z5 : Option Value) (h : dH), dY shM d mj214 dI (k v2 v3 h) 68 [some (.ref 0), some (.int v1), some (.int v2), some (.int v3), some (.int w4), z5] [] h) : ∀ (n : Nat) (v2 : Int32) (v3 : Int32) (v4 : Int32) (h : dH) (z5 : Option Value), dY shM d mj214 dI (l_X7_missed_20  k n v2 v3 v4 h) 20 [some (.ref 0), some (.int v1), some (.int v2), some (.int v3), some (.int v4), z5] [] h
  | 0, _, _, _, _, _ => dY_none
  | n + 1, v2, v3, v4, h, z5 => by
    rw [l_X7_missed_20]
    refine y_iload (q := 22) rfl rfl rfl ?_
    refine y_aload_n (q := 23) rfl rfl rfl ?_
    refine y_getI (q := 26) rfl rfl (by decide) atM0 rfl rfl ?_
    refine y_ge (q := 68) (q' := 29) rfl rfl rfl rfl rfl (fun c4 => ?_) (fun c5 => ?_)
    · skip
      refine y_aload_n (q := 30) rfl rfl rfl ?_
      refine y_iload (q := 32) rfl rfl rfl ?_
      refine y_putI (q := 35) rfl rfl (by decide) atM0 rfl rfl rfl rfl (fun g6 => ?_)
      refine y_aload_n (q := 36) rfl rfl rfl ?_
      refine y_callV (I := .invokevirtual 385) (idx := 385) (KD := 1) (J := 204) (mj := mj194) (as := [.ref 0]) (r := []) (q := 39) rfl (fun _ _ _ _ _ _ => rfl) rfl (by decide) rfl rfl rfl rfl rfl (Nat.le_of_ble_eq_true rfl) (d_recv atM0 (by decide) (by decide)) rfl (m_X7_waysAll (Nat.le_trans (by decide) hd)  g6) (fun g7 => ?_)
      refine y_aload_n (q := 40) rfl rfl rfl ?_
      refine y_callP (I := .invokevirtual 388) (idx := 388) (KD := 1) (J := 205) (mj := mj195) (as := [.ref 0]) (r := []) (q := 43) rfl (fun _ _ _ _ _ _ => rfl) rfl (by decide) rfl rfl rfl rfl rfl (Nat.le_of_ble_eq_true rfl) (d_recv atM0 (by decide) (by decide)) rfl (m_X7_companies (Nat.le_trans (by decide) hd)  g7) (fun r8 => ?_)
      refine y_istore (lo' := [some (.ref 0), some (.int v1), some (.int v2), some (.int v3), some (.int v4), some (.int r8)]) (q := 45) rfl (Nat.le_of_ble_eq_true rfl) rfl rfl ?_
      refine y_aload_n (q := 46) rfl rfl rfl ?_
      refine y_iconst (x := (-1)) (q := 47) rfl (by decide) rfl ?_
      refine y_putI (q := 50) rfl rfl (by decide) atM0 rfl rfl rfl rfl (fun g9 => ?_)
      refine y_iload (q := 52) rfl rfl rfl ?_
      refine y_iload_n (q := 53) rfl rfl rfl ?_
      refine y_le (q := 62) (q' := 56) rfl rfl rfl rfl rfl (fun c10 => ?_) (fun c11 => ?_)
      · skip
        refine y_iload (q := 58) rfl rfl rfl ?_
        refine y_istore_n (lo' := [some (.ref 0), some (.int v1), some (.int v4), some (.int v3), some (.int v4), some (.int r8)]) (q := 59) rfl (Nat.le_of_ble_eq_true rfl) rfl rfl ?_
        refine y_iload (q := 61) rfl rfl rfl ?_
        refine y_istore_n (lo' := [some (.ref 0), some (.int v1), some (.int v4), some (.int r8), some (.int v4), some (.int r8)]) (q := 62) rfl (Nat.le_of_ble_eq_true rfl) rfl rfl ?_
        refine y_iinc (z := (v4 + 1)) (lo' := [some (.ref 0), some (.int v1), some (.int v4), some (.int r8), some (.int (v4 + 1)), some (.int r8)]) (q := 65) rfl rfl (Nat.le_of_ble_eq_true rfl) (by rw [oi_1]) rfl rfl ?_
        refine y_goto (q := 20) rfl rfl ?_
        exact lz_X7_missed_20 hd v1 k hk n v4 r8 (v4 + 1) g9 (some (.int r8))
      · skip
        refine y_iinc (z := (v4 + 1)) (lo' := [some (.ref 0), some (.int v1), some (.int v2), some (.int v3), some (.int (v4 + 1)), some (.int r8)]) (q := 65) rfl rfl (Nat.le_of_ble_eq_true rfl) (by rw [oi_1]) rfl rfl ?_
        refine y_goto (q := 20) rfl rfl ?_
        exact lz_X7_missed_20 hd v1 k hk n v2 v3 (v4 + 1) g9 (some (.int r8))
    · skip
      exact hk v2 v3 v4 (z5) h
def f_X7_missed (v1 : Int32) (h : dH) : Option (Int32 × dH) := oP (f_X7_in (v1.toInt64) 0 1) (fun r1 => if r1.toInt = 0 then (some ((-2), h)) else (l_X7_missed_20   (fun v2_12 v3_13 g16 => if v1.toInt = 0 then (some (v2_12, g16)) else (some (v3_13, g16))) fuel0 (-1) (-1) 0 h))
theorem m_X7_missed {d : Nat} (hd : 4 ≤ d) (v1 : Int32) (h : dH) : dX shM d 214 [.ref 0, .int v1] dI (f_X7_missed v1 h) h := by
  obtain ⟨e, rfl⟩ : ∃ e, d = e + 1 := ⟨d - 1, by omega⟩
  have hd : 3 ≤ e := by omega
  refine dX_of (mj := mj214) (lo := [some (.ref 0), some (.int v1), none, none, none, none]) rfl (Nat.le_of_ble_eq_true rfl) rfl ?_
  unfold f_X7_missed
  refine y_iload_n (q := 1) rfl rfl rfl ?_
  refine y_i2l (q := 2) rfl rfl ?_
  refine y_lconst (u := 0) (q := 3) rfl (by decide) rfl ?_
  refine y_lconst (u := 1) (q := 4) rfl (by decide) rfl ?_
  refine y_callP (I := .invokestatic 91) (idx := 91) (KD := 0) (J := 128) (mj := mj118) (as := [.long v1.toInt64, .long 0, .long 1]) (r := []) (q := 7) rfl (fun _ _ _ _ _ _ => rfl) rfl (by decide) rfl rfl rfl rfl rfl (Nat.le_of_ble_eq_true rfl) rfl rfl (m_X7_in (Nat.le_trans (by decide) hd) (v1.toInt64) 0 1 h) (fun r1 => ?_)
  refine y_ne0 (q := 13) (q' := 10) rfl rfl rfl rfl (fun c2 => ?_) (fun c3 => ?_)
  · skip
    refine y_bipush (x := (-2)) (q := 12) rfl (by decide) rfl ?_
    exact y_retI rfl (by decide) rfl rfl
  · skip
    refine y_iconst (x := (-1)) (q := 14) rfl (by decide) rfl ?_
    refine y_istore_n (lo' := [some (.ref 0), some (.int v1), some (.int (-1)), none, none, none]) (q := 15) rfl (Nat.le_of_ble_eq_true rfl) rfl rfl ?_
    refine y_iconst (x := (-1)) (q := 16) rfl (by decide) rfl ?_
    refine y_istore_n (lo' := [some (.ref 0), some (.int v1), some (.int (-1)), some (.int (-1)), none, none]) (q := 17) rfl (Nat.le_of_ble_eq_true rfl) rfl rfl ?_
    refine y_iconst (x := 0) (q := 18) rfl (by decide) rfl ?_
    refine y_istore (lo' := [some (.ref 0), some (.int v1), some (.int (-1)), some (.int (-1)), some (.int 0), none]) (q := 20) rfl (Nat.le_of_ble_eq_true rfl) rfl rfl ?_
    refine lz_X7_missed_20 hd v1  _ (fun v2_12 v3_13 z14 z15 g16 => ?_) fuel0 (-1) (-1) 0 h (none)
    refine y_iload_n (q := 69) rfl rfl rfl ?_
    refine y_ne0 (q := 76) (q' := 72) rfl rfl rfl rfl (fun c17 => ?_) (fun c18 => ?_)
    · skip
      refine y_iload_n (q := 73) rfl rfl rfl ?_
      refine y_goto (q := 77) rfl rfl ?_
      exact y_retI rfl (by decide) rfl rfl
    · skip
      refine y_iload_n (q := 77) rfl rfl rfl ?_
      exact y_retI rfl (by decide) rfl rfl
def l_X7_match_44 (v4 : Int32) (k : Int32 → Int32 → dH → Option (Int32 × dH)) : Nat → Int32 → Int32 → Int32 → dH → Option (Int32 × dH)
  | 0, _, _, _, _ => none
  | n + 1, v2, v3, v5, h => if v5.toInt < (h 0 13).toInt then (oP (f_X7_knows v4 v5 h) (fun r10 => if r10.toInt = 0 then (oH (dU h 0 29 v4) (fun g13 => oH (dU g13 0 30 v5) (fun g14 => oV (f_X7_waysAll  g14) (fun g15 => oH (dU g15 0 29 (-1)) (fun g16 => oH (dU g16 0 30 (-1)) (fun g17 => oP (f_X7_longest 9 g17) (fun r18 => if r18.toInt < v3.toInt then (l_X7_match_44 v4 k n ((10 * v4) + v5) r18 (v5 + 1) g17) else (l_X7_match_44 v4 k n v2 v3 (v5 + 1) g17)))))))) else (l_X7_match_44 v4 k n v2 v3 (v5 + 1) h))) else (k v2 v3 h)
theorem lz_X7_match_44 {d : Nat} (hd : 3 ≤ d) (v1 : Int32) (v4 : Int32) (k : Int32 → Int32 → dH → Option (Int32 × dH)) (hk : ∀ (v2 : Int32) (v3 : Int32) (w5 : Int32) (z6 : Option Value) (h : dH), dY shM d mj215 dI (k v2 v3 h) 122 [some (.ref 0), some (.int v1), some (.int v2), some (.int v3), some (.int v4), some (.int w5), z6] [] h) : ∀ (n : Nat) (v2 : Int32) (v3 : Int32) (v5 : Int32) (h : dH) (z6 : Option Value), dY shM d mj215 dI (l_X7_match_44 v4 k n v2 v3 v5 h) 44 [some (.ref 0), some (.int v1), some (.int v2), some (.int v3), some (.int v4), some (.int v5), z6] [] h
  | 0, _, _, _, _, _ => dY_none
  | n + 1, v2, v3, v5, h, z6 => by
    rw [l_X7_match_44]
    refine y_iload (q := 46) rfl rfl rfl ?_
    refine y_aload_n (q := 47) rfl rfl rfl ?_
    refine y_getI (q := 50) rfl rfl (by decide) atM0 rfl rfl ?_
    refine y_ge (q := 122) (q' := 53) rfl rfl rfl rfl rfl (fun c8 => ?_) (fun c9 => ?_)
    · skip
      refine y_aload_n (q := 54) rfl rfl rfl ?_
      refine y_iload (q := 56) rfl rfl rfl ?_
      refine y_iload (q := 58) rfl rfl rfl ?_
      refine y_callP (I := .invokevirtual 155) (idx := 155) (KD := 1) (J := 202) (mj := mj192) (as := [.ref 0, .int v4, .int v5]) (r := []) (q := 61) rfl (fun _ _ _ _ _ _ => rfl) rfl (by decide) rfl rfl rfl rfl rfl (Nat.le_of_ble_eq_true rfl) (d_recv atM0 (by decide) (by decide)) rfl (m_X7_knows (Nat.le_trans (by decide) hd) v4 v5 h) (fun r10 => ?_)
      refine y_ne0 (q := 116) (q' := 64) rfl rfl rfl rfl (fun c11 => ?_) (fun c12 => ?_)
      · skip
        refine y_aload_n (q := 65) rfl rfl rfl ?_
        refine y_iload (q := 67) rfl rfl rfl ?_
        refine y_putI (q := 70) rfl rfl (by decide) atM0 rfl rfl rfl rfl (fun g13 => ?_)
        refine y_aload_n (q := 71) rfl rfl rfl ?_
        refine y_iload (q := 73) rfl rfl rfl ?_
        refine y_putI (q := 76) rfl rfl (by decide) atM0 rfl rfl rfl rfl (fun g14 => ?_)
        refine y_aload_n (q := 77) rfl rfl rfl ?_
        refine y_callV (I := .invokevirtual 385) (idx := 385) (KD := 1) (J := 204) (mj := mj194) (as := [.ref 0]) (r := []) (q := 80) rfl (fun _ _ _ _ _ _ => rfl) rfl (by decide) rfl rfl rfl rfl rfl (Nat.le_of_ble_eq_true rfl) (d_recv atM0 (by decide) (by decide)) rfl (m_X7_waysAll (Nat.le_trans (by decide) hd)  g14) (fun g15 => ?_)
        refine y_aload_n (q := 81) rfl rfl rfl ?_
        refine y_iconst (x := (-1)) (q := 82) rfl (by decide) rfl ?_
        refine y_putI (q := 85) rfl rfl (by decide) atM0 rfl rfl rfl rfl (fun g16 => ?_)
        refine y_aload_n (q := 86) rfl rfl rfl ?_
        refine y_iconst (x := (-1)) (q := 87) rfl (by decide) rfl ?_
        refine y_putI (q := 90) rfl rfl (by decide) atM0 rfl rfl rfl rfl (fun g17 => ?_)
        refine y_aload_n (q := 91) rfl rfl rfl ?_
        refine y_bipush (x := 9) (q := 93) rfl (by decide) rfl ?_
        refine y_callP (I := .invokevirtual 397) (idx := 397) (KD := 1) (J := 207) (mj := mj197) (as := [.ref 0, .int 9]) (r := []) (q := 96) rfl (fun _ _ _ _ _ _ => rfl) rfl (by decide) rfl rfl rfl rfl rfl (Nat.le_of_ble_eq_true rfl) (d_recv atM0 (by decide) (by decide)) rfl (m_X7_longest (Nat.le_trans (by decide) hd) 9 g17) (fun r18 => ?_)
        refine y_istore (lo' := [some (.ref 0), some (.int v1), some (.int v2), some (.int v3), some (.int v4), some (.int v5), some (.int r18)]) (q := 98) rfl (Nat.le_of_ble_eq_true rfl) rfl rfl ?_
        refine y_iload (q := 100) rfl rfl rfl ?_
        refine y_iload_n (q := 101) rfl rfl rfl ?_
        refine y_ge (q := 116) (q' := 104) rfl rfl rfl rfl rfl (fun c19 => ?_) (fun c20 => ?_)
        · skip
          refine y_bipush (x := 10) (q := 106) rfl (by decide) rfl ?_
          refine y_iload (q := 108) rfl rfl rfl ?_
          refine y_imul (q := 109) rfl rfl ?_
          refine y_iload (q := 111) rfl rfl rfl ?_
          refine y_iadd (q := 112) rfl rfl ?_
          refine y_istore_n (lo' := [some (.ref 0), some (.int v1), some (.int ((10 * v4) + v5)), some (.int v3), some (.int v4), some (.int v5), some (.int r18)]) (q := 113) rfl (Nat.le_of_ble_eq_true rfl) rfl rfl ?_
          refine y_iload (q := 115) rfl rfl rfl ?_
          refine y_istore_n (lo' := [some (.ref 0), some (.int v1), some (.int ((10 * v4) + v5)), some (.int r18), some (.int v4), some (.int v5), some (.int r18)]) (q := 116) rfl (Nat.le_of_ble_eq_true rfl) rfl rfl ?_
          refine y_iinc (z := (v5 + 1)) (lo' := [some (.ref 0), some (.int v1), some (.int ((10 * v4) + v5)), some (.int r18), some (.int v4), some (.int (v5 + 1)), some (.int r18)]) (q := 119) rfl rfl (Nat.le_of_ble_eq_true rfl) (by rw [oi_1]) rfl rfl ?_
          refine y_goto (q := 44) rfl rfl ?_
          exact lz_X7_match_44 hd v1 v4 k hk n ((10 * v4) + v5) r18 (v5 + 1) g17 (some (.int r18))
        · skip
          refine y_iinc (z := (v5 + 1)) (lo' := [some (.ref 0), some (.int v1), some (.int v2), some (.int v3), some (.int v4), some (.int (v5 + 1)), some (.int r18)]) (q := 119) rfl rfl (Nat.le_of_ble_eq_true rfl) (by rw [oi_1]) rfl rfl ?_
          refine y_goto (q := 44) rfl rfl ?_
          exact lz_X7_match_44 hd v1 v4 k hk n v2 v3 (v5 + 1) g17 (some (.int r18))
      · skip
        refine y_iinc (z := (v5 + 1)) (lo' := [some (.ref 0), some (.int v1), some (.int v2), some (.int v3), some (.int v4), some (.int (v5 + 1)), z6]) (q := 119) rfl rfl (Nat.le_of_ble_eq_true rfl) (by rw [oi_1]) rfl rfl ?_
        refine y_goto (q := 44) rfl rfl ?_
        exact lz_X7_match_44 hd v1 v4 k hk n v2 v3 (v5 + 1) h (z6)
    · skip
      exact hk v2 v3 v5 (z6) h
def l_X7_match_29  (k : Int32 → Int32 → dH → Option (Int32 × dH)) : Nat → Int32 → Int32 → Int32 → dH → Option (Int32 × dH)
  | 0, _, _, _, _ => none
  | n + 1, v2, v3, v4, h => if v4.toInt < (h 0 13).toInt then (l_X7_match_44 v4  (fun v2_21 v3_22 g25 => l_X7_match_29  k n v2_21 v3_22 (v4 + 1) g25) fuel0 v2 v3 (v4 + 1) h) else (k v2 v3 h)
theorem lz_X7_match_29 {d : Nat} (hd : 3 ≤ d) (v1 : Int32) (k : Int32 → Int32 → dH → Option (Int32 × dH)) (hk : ∀ (v2 : Int32) (v3 : Int32) (w4 : Int32) (z5 : Option Value) (z6 : Option Value) (h : dH), dY shM d mj215 dI (k v2 v3 h) 128 [some (.ref 0), some (.int v1), some (.int v2), some (.int v3), some (.int w4), z5, z6] [] h) : ∀ (n : Nat) (v2 : Int32) (v3 : Int32) (v4 : Int32) (h : dH) (z5 : Option Value) (z6 : Option Value), dY shM d mj215 dI (l_X7_match_29  k n v2 v3 v4 h) 29 [some (.ref 0), some (.int v1), some (.int v2), some (.int v3), some (.int v4), z5, z6] [] h
  | 0, _, _, _, _, _, _ => dY_none
  | n + 1, v2, v3, v4, h, z5, z6 => by
    rw [l_X7_match_29]
    refine y_iload (q := 31) rfl rfl rfl ?_
    refine y_aload_n (q := 32) rfl rfl rfl ?_
    refine y_getI (q := 35) rfl rfl (by decide) atM0 rfl rfl ?_
    refine y_ge (q := 128) (q' := 38) rfl rfl rfl rfl rfl (fun c6 => ?_) (fun c7 => ?_)
    · skip
      refine y_iload (q := 40) rfl rfl rfl ?_
      refine y_iconst (x := 1) (q := 41) rfl (by decide) rfl ?_
      refine y_iadd (q := 42) rfl rfl ?_
      refine y_istore (lo' := [some (.ref 0), some (.int v1), some (.int v2), some (.int v3), some (.int v4), some (.int (v4 + 1)), z6]) (q := 44) rfl (Nat.le_of_ble_eq_true rfl) rfl rfl ?_
      refine lz_X7_match_44 hd v1 v4  _ (fun v2_21 v3_22 z23 z24 g25 => ?_) fuel0 v2 v3 (v4 + 1) h (z6)
      refine y_iinc (z := (v4 + 1)) (lo' := [some (.ref 0), some (.int v1), some (.int v2_21), some (.int v3_22), some (.int (v4 + 1)), some (.int z23), z24]) (q := 125) rfl rfl (Nat.le_of_ble_eq_true rfl) (by rw [oi_1]) rfl rfl ?_
      refine y_goto (q := 29) rfl rfl ?_
      exact lz_X7_match_29 hd v1 k hk n v2_21 v3_22 (v4 + 1) g25 (some (.int z23)) (z24)
    · skip
      exact hk v2 v3 v4 (z5) (z6) h
def f_X7_match (v1 : Int32) (h : dH) : Option (Int32 × dH) := oP (f_X7_in (v1.toInt64) 0 1) (fun r1 => if r1.toInt = 0 then (some ((-2), h)) else (oV (f_X7_waysAll  h) (fun g4 => oP (f_X7_longest 9 g4) (fun r5 => l_X7_match_29   (fun v2_26 v3_27 g31 => if v1.toInt = 0 then (some (v2_26, g31)) else (some (v3_27, g31))) fuel0 (-1) r5 0 g4))))
theorem m_X7_match {d : Nat} (hd : 4 ≤ d) (v1 : Int32) (h : dH) : dX shM d 215 [.ref 0, .int v1] dI (f_X7_match v1 h) h := by
  obtain ⟨e, rfl⟩ : ∃ e, d = e + 1 := ⟨d - 1, by omega⟩
  have hd : 3 ≤ e := by omega
  refine dX_of (mj := mj215) (lo := [some (.ref 0), some (.int v1), none, none, none, none, none]) rfl (Nat.le_of_ble_eq_true rfl) rfl ?_
  unfold f_X7_match
  refine y_iload_n (q := 1) rfl rfl rfl ?_
  refine y_i2l (q := 2) rfl rfl ?_
  refine y_lconst (u := 0) (q := 3) rfl (by decide) rfl ?_
  refine y_lconst (u := 1) (q := 4) rfl (by decide) rfl ?_
  refine y_callP (I := .invokestatic 91) (idx := 91) (KD := 0) (J := 128) (mj := mj118) (as := [.long v1.toInt64, .long 0, .long 1]) (r := []) (q := 7) rfl (fun _ _ _ _ _ _ => rfl) rfl (by decide) rfl rfl rfl rfl rfl (Nat.le_of_ble_eq_true rfl) rfl rfl (m_X7_in (Nat.le_trans (by decide) hd) (v1.toInt64) 0 1 h) (fun r1 => ?_)
  refine y_ne0 (q := 13) (q' := 10) rfl rfl rfl rfl (fun c2 => ?_) (fun c3 => ?_)
  · skip
    refine y_bipush (x := (-2)) (q := 12) rfl (by decide) rfl ?_
    exact y_retI rfl (by decide) rfl rfl
  · skip
    refine y_aload_n (q := 14) rfl rfl rfl ?_
    refine y_callV (I := .invokevirtual 385) (idx := 385) (KD := 1) (J := 204) (mj := mj194) (as := [.ref 0]) (r := []) (q := 17) rfl (fun _ _ _ _ _ _ => rfl) rfl (by decide) rfl rfl rfl rfl rfl (Nat.le_of_ble_eq_true rfl) (d_recv atM0 (by decide) (by decide)) rfl (m_X7_waysAll (Nat.le_trans (by decide) hd)  h) (fun g4 => ?_)
    refine y_iconst (x := (-1)) (q := 18) rfl (by decide) rfl ?_
    refine y_istore_n (lo' := [some (.ref 0), some (.int v1), some (.int (-1)), none, none, none, none]) (q := 19) rfl (Nat.le_of_ble_eq_true rfl) rfl rfl ?_
    refine y_aload_n (q := 20) rfl rfl rfl ?_
    refine y_bipush (x := 9) (q := 22) rfl (by decide) rfl ?_
    refine y_callP (I := .invokevirtual 397) (idx := 397) (KD := 1) (J := 207) (mj := mj197) (as := [.ref 0, .int 9]) (r := []) (q := 25) rfl (fun _ _ _ _ _ _ => rfl) rfl (by decide) rfl rfl rfl rfl rfl (Nat.le_of_ble_eq_true rfl) (d_recv atM0 (by decide) (by decide)) rfl (m_X7_longest (Nat.le_trans (by decide) hd) 9 g4) (fun r5 => ?_)
    refine y_istore_n (lo' := [some (.ref 0), some (.int v1), some (.int (-1)), some (.int r5), none, none, none]) (q := 26) rfl (Nat.le_of_ble_eq_true rfl) rfl rfl ?_
    refine y_iconst (x := 0) (q := 27) rfl (by decide) rfl ?_
    refine y_istore (lo' := [some (.ref 0), some (.int v1), some (.int (-1)), some (.int r5), some (.int 0), none, none]) (q := 29) rfl (Nat.le_of_ble_eq_true rfl) rfl rfl ?_
    refine lz_X7_match_29 hd v1  _ (fun v2_26 v3_27 z28 z29 z30 g31 => ?_) fuel0 (-1) r5 0 g4 (none) (none)
    refine y_iload_n (q := 129) rfl rfl rfl ?_
    refine y_ne0 (q := 136) (q' := 132) rfl rfl rfl rfl (fun c32 => ?_) (fun c33 => ?_)
    · skip
      refine y_iload_n (q := 133) rfl rfl rfl ?_
      refine y_goto (q := 137) rfl rfl ?_
      exact y_retI rfl (by decide) rfl rfl
    · skip
      refine y_iload_n (q := 137) rfl rfl rfl ?_
      exact y_retI rfl (by decide) rfl rfl
def l_X7_unlike_13 (v1 : Int32) (v2 : Int32) (h : dH) (k : Int32 → Option (Int32 × dH)) : Nat → Int32 → Int32 → Option (Int32 × dH)
  | 0, _, _ => none
  | n + 1, v3, v4 => if v4.toInt < (h 0 13).toInt then (oP (f_X7_strengthOf v2 v4 h) (fun r5 => if 0 ≤ ((40 * v1) + v4).toInt ∧ ((40 * v1) + v4).toInt < 160 then (if r5.toInt = (h 17 (((40 * v1) + v4).toInt.toNat)).toInt then (l_X7_unlike_13 v1 v2 h k n (v3 ||| (dshl 0 v4)) (v4 + 1) ) else (l_X7_unlike_13 v1 v2 h k n (v3 ||| (dshl 1 v4)) (v4 + 1) )) else none)) else (k v3 )
theorem lz_X7_unlike_13 {d : Nat} (hd : 45 ≤ d) (v1 : Int32) (v2 : Int32) (h : dH) (k : Int32 → Option (Int32 × dH)) (hk : ∀ (v3 : Int32) (w4 : Int32), dY shM d mj216 dI (k v3) 61 [some (.ref 0), some (.int v1), some (.int v2), some (.int v3), some (.int w4)] [] h) : ∀ (n : Nat) (v3 : Int32) (v4 : Int32), dY shM d mj216 dI (l_X7_unlike_13 v1 v2 h k n v3 v4) 13 [some (.ref 0), some (.int v1), some (.int v2), some (.int v3), some (.int v4)] [] h
  | 0, _, _ => dY_none
  | n + 1, v3, v4 => by
    rw [l_X7_unlike_13]
    refine y_iload (q := 15) rfl rfl rfl ?_
    refine y_aload_n (q := 16) rfl rfl rfl ?_
    refine y_getI (q := 19) rfl rfl (by decide) atM0 rfl rfl ?_
    refine y_ge (q := 61) (q' := 22) rfl rfl rfl rfl rfl (fun c3 => ?_) (fun c4 => ?_)
    · skip
      refine y_iload_n (q := 23) rfl rfl rfl ?_
      refine y_aload_n (q := 24) rfl rfl rfl ?_
      refine y_iload_n (q := 25) rfl rfl rfl ?_
      refine y_iload (q := 27) rfl rfl rfl ?_
      refine y_callP (I := .invokevirtual 139) (idx := 139) (KD := 1) (J := 136) (mj := mj126) (as := [.ref 0, .int v2, .int v4]) (r := [.int v3]) (q := 30) rfl (fun _ _ _ _ _ _ => rfl) rfl (by decide) rfl rfl rfl rfl rfl (Nat.le_of_ble_eq_true rfl) (d_recv atM0 (by decide) (by decide)) rfl (m_X7_strengthOf (Nat.le_trans (by decide) hd) v2 v4 h) (fun r5 => ?_)
      refine y_aload_n (q := 31) rfl rfl rfl ?_
      refine y_getR (b := 17) (q := 34) rfl rfl (by decide) atM0 rfl rfl ?_
      refine y_bipush (x := 40) (q := 36) rfl (by decide) rfl ?_
      refine y_iload_n (q := 37) rfl rfl rfl ?_
      refine y_imul (q := 38) rfl rfl ?_
      refine y_iload (q := 40) rfl rfl rfl ?_
      refine y_iadd (q := 41) rfl rfl ?_
      refine y_guard (fun c6 => ?_)
      refine y_iald (n := 160) (N := 160) (X := ((40 * v1) + v4).toInt) (K := ((40 * v1) + v4).toInt.toNat) (q := 42) hbM rfl atM17 rfl rfl c6 rfl rfl ?_
      refine y_ne (q := 49) (q' := 45) rfl rfl rfl rfl rfl (fun c7 => ?_) (fun c8 => ?_)
      · skip
        refine y_iconst (x := 0) (q := 46) rfl (by decide) rfl ?_
        refine y_goto (q := 50) rfl rfl ?_
        refine y_iload (q := 52) rfl rfl rfl ?_
        refine y_ishl (q := 53) rfl rfl ?_
        refine y_ior (q := 54) rfl rfl ?_
        refine y_istore_n (lo' := [some (.ref 0), some (.int v1), some (.int v2), some (.int (v3 ||| (dshl 0 v4))), some (.int v4)]) (q := 55) rfl (Nat.le_of_ble_eq_true rfl) rfl rfl ?_
        refine y_iinc (z := (v4 + 1)) (lo' := [some (.ref 0), some (.int v1), some (.int v2), some (.int (v3 ||| (dshl 0 v4))), some (.int (v4 + 1))]) (q := 58) rfl rfl (Nat.le_of_ble_eq_true rfl) (by rw [oi_1]) rfl rfl ?_
        refine y_goto (q := 13) rfl rfl ?_
        exact lz_X7_unlike_13 hd v1 v2 h k hk n (v3 ||| (dshl 0 v4)) (v4 + 1)  
      · skip
        refine y_iconst (x := 1) (q := 50) rfl (by decide) rfl ?_
        refine y_iload (q := 52) rfl rfl rfl ?_
        refine y_ishl (q := 53) rfl rfl ?_
        refine y_ior (q := 54) rfl rfl ?_
        refine y_istore_n (lo' := [some (.ref 0), some (.int v1), some (.int v2), some (.int (v3 ||| (dshl 1 v4))), some (.int v4)]) (q := 55) rfl (Nat.le_of_ble_eq_true rfl) rfl rfl ?_
        refine y_iinc (z := (v4 + 1)) (lo' := [some (.ref 0), some (.int v1), some (.int v2), some (.int (v3 ||| (dshl 1 v4))), some (.int (v4 + 1))]) (q := 58) rfl rfl (Nat.le_of_ble_eq_true rfl) (by rw [oi_1]) rfl rfl ?_
        refine y_goto (q := 13) rfl rfl ?_
        exact lz_X7_unlike_13 hd v1 v2 h k hk n (v3 ||| (dshl 1 v4)) (v4 + 1)  
    · skip
      exact hk v3 v4 
def f_X7_unlike (v1 : Int32) (v2 : Int32) (h : dH) : Option (Int32 × dH) := oV (f_X7_laysAside  h) (fun g1 => oV (f_X7_feasts  g1) (fun g2 => l_X7_unlike_13 v1 v2 g2 (fun v3_9 => oV (f_X7_laysBack  g2) (fun g11 => some (v3_9, g11))) fuel0 0 0 ))
theorem m_X7_unlike {d : Nat} (hd : 46 ≤ d) (v1 : Int32) (v2 : Int32) (h : dH) : dX shM d 216 [.ref 0, .int v1, .int v2] dI (f_X7_unlike v1 v2 h) h := by
  obtain ⟨e, rfl⟩ : ∃ e, d = e + 1 := ⟨d - 1, by omega⟩
  have hd : 45 ≤ e := by omega
  refine dX_of (mj := mj216) (lo := [some (.ref 0), some (.int v1), some (.int v2), none, none]) rfl (Nat.le_of_ble_eq_true rfl) rfl ?_
  unfold f_X7_unlike
  refine y_aload_n (q := 1) rfl rfl rfl ?_
  refine y_callV (I := .invokevirtual 413) (idx := 413) (KD := 1) (J := 213) (mj := mj203) (as := [.ref 0]) (r := []) (q := 4) rfl (fun _ _ _ _ _ _ => rfl) rfl (by decide) rfl rfl rfl rfl rfl (Nat.le_of_ble_eq_true rfl) (d_recv atM0 (by decide) (by decide)) rfl (m_X7_laysAside (Nat.le_trans (by decide) hd)  h) (fun g1 => ?_)
  refine y_aload_n (q := 5) rfl rfl rfl ?_
  refine y_callV (I := .invokevirtual 376) (idx := 376) (KD := 1) (J := 198) (mj := mj188) (as := [.ref 0]) (r := []) (q := 8) rfl (fun _ _ _ _ _ _ => rfl) rfl (by decide) rfl rfl rfl rfl rfl (Nat.le_of_ble_eq_true rfl) (d_recv atM0 (by decide) (by decide)) rfl (m_X7_feasts (Nat.le_trans (by decide) hd)  g1) (fun g2 => ?_)
  refine y_iconst (x := 0) (q := 9) rfl (by decide) rfl ?_
  refine y_istore_n (lo' := [some (.ref 0), some (.int v1), some (.int v2), some (.int 0), none]) (q := 10) rfl (Nat.le_of_ble_eq_true rfl) rfl rfl ?_
  refine y_iconst (x := 0) (q := 11) rfl (by decide) rfl ?_
  refine y_istore (lo' := [some (.ref 0), some (.int v1), some (.int v2), some (.int 0), some (.int 0)]) (q := 13) rfl (Nat.le_of_ble_eq_true rfl) rfl rfl ?_
  refine lz_X7_unlike_13 hd v1 v2 g2 _ (fun v3_9 z10 => ?_) fuel0 0 0  
  refine y_aload_n (q := 62) rfl rfl rfl ?_
  refine y_callV (I := .invokevirtual 420) (idx := 420) (KD := 1) (J := 214) (mj := mj204) (as := [.ref 0]) (r := []) (q := 65) rfl (fun _ _ _ _ _ _ => rfl) rfl (by decide) rfl rfl rfl rfl rfl (Nat.le_of_ble_eq_true rfl) (d_recv atM0 (by decide) (by decide)) rfl (m_X7_laysBack (Nat.le_trans (by decide) hd)  g2) (fun g11 => ?_)
  refine y_iload_n (q := 66) rfl rfl rfl ?_
  exact y_retI rfl (by decide) rfl rfl
def l_X7_limitsBy_31 (v1 : Int32) (v2 : Int32) (h : dH) (k : Int32 → Option (Int32 × dH)) : Nat → Int32 → Int32 → Option (Int32 × dH)
  | 0, _, _ => none
  | n + 1, v7, v8 => if v8.toInt < (h 0 13).toInt then (if v7.toInt = 0 then (l_X7_limitsBy_31 v1 v2 h k n 0 (v8 + 1) ) else (if v8.toInt = v2.toInt then (l_X7_limitsBy_31 v1 v2 h k n 1 (v8 + 1) ) else (oP (f_X7_knows v2 v8 h) (fun r10 => if 0 ≤ ((40 * v1) + v8).toInt ∧ ((40 * v1) + v8).toInt < 160 then (if (h 17 (((40 * v1) + v8).toInt.toNat)).toInt < 20 then (if r10.toInt = 0 then (l_X7_limitsBy_31 v1 v2 h k n 1 (v8 + 1) ) else (l_X7_limitsBy_31 v1 v2 h k n 0 (v8 + 1) )) else (if r10.toInt = 1 then (l_X7_limitsBy_31 v1 v2 h k n 1 (v8 + 1) ) else (l_X7_limitsBy_31 v1 v2 h k n 0 (v8 + 1) ))) else none)))) else (k v7 )
theorem lz_X7_limitsBy_31 {d : Nat} (hd : 2 ≤ d) (v1 : Int32) (v2 : Int32) (v3 : Int32) (v4 : Int32) (v5 : Int32) (v6 : Int32) (h : dH) (k : Int32 → Option (Int32 × dH)) (hk : ∀ (v7 : Int32) (w8 : Int32), dY shM d mj217 dI (k v7) 96 [some (.ref 0), some (.int v1), some (.int v2), some (.int v3), some (.int v4), some (.int v5), some (.int v6), some (.int v7), some (.int w8)] [] h) : ∀ (n : Nat) (v7 : Int32) (v8 : Int32), dY shM d mj217 dI (l_X7_limitsBy_31 v1 v2 h k n v7 v8) 31 [some (.ref 0), some (.int v1), some (.int v2), some (.int v3), some (.int v4), some (.int v5), some (.int v6), some (.int v7), some (.int v8)] [] h
  | 0, _, _ => dY_none
  | n + 1, v7, v8 => by
    rw [l_X7_limitsBy_31]
    refine y_iload (q := 33) rfl rfl rfl ?_
    refine y_aload_n (q := 34) rfl rfl rfl ?_
    refine y_getI (q := 37) rfl rfl (by decide) atM0 rfl rfl ?_
    refine y_ge (q := 96) (q' := 40) rfl rfl rfl rfl rfl (fun c4 => ?_) (fun c5 => ?_)
    · skip
      refine y_iload (q := 42) rfl rfl rfl ?_
      refine y_eq0 (q := 87) (q' := 45) rfl rfl rfl rfl (fun c6 => ?_) (fun c7 => ?_)
      · skip
        refine y_iconst (x := 0) (q := 88) rfl (by decide) rfl ?_
        refine y_istore (lo' := [some (.ref 0), some (.int v1), some (.int v2), some (.int v3), some (.int v4), some (.int v5), some (.int v6), some (.int 0), some (.int v8)]) (q := 90) rfl (Nat.le_of_ble_eq_true rfl) rfl rfl ?_
        refine y_iinc (z := (v8 + 1)) (lo' := [some (.ref 0), some (.int v1), some (.int v2), some (.int v3), some (.int v4), some (.int v5), some (.int v6), some (.int 0), some (.int (v8 + 1))]) (q := 93) rfl rfl (Nat.le_of_ble_eq_true rfl) (by rw [oi_1]) rfl rfl ?_
        refine y_goto (q := 31) rfl rfl ?_
        exact lz_X7_limitsBy_31 hd v1 v2 v3 v4 v5 v6 h k hk n 0 (v8 + 1)  
      · skip
        refine y_iload (q := 47) rfl rfl rfl ?_
        refine y_iload_n (q := 48) rfl rfl rfl ?_
        refine y_eq (q := 83) (q' := 51) rfl rfl rfl rfl rfl (fun c8 => ?_) (fun c9 => ?_)
        · skip
          refine y_iconst (x := 1) (q := 84) rfl (by decide) rfl ?_
          refine y_goto (q := 88) rfl rfl ?_
          refine y_istore (lo' := [some (.ref 0), some (.int v1), some (.int v2), some (.int v3), some (.int v4), some (.int v5), some (.int v6), some (.int 1), some (.int v8)]) (q := 90) rfl (Nat.le_of_ble_eq_true rfl) rfl rfl ?_
          refine y_iinc (z := (v8 + 1)) (lo' := [some (.ref 0), some (.int v1), some (.int v2), some (.int v3), some (.int v4), some (.int v5), some (.int v6), some (.int 1), some (.int (v8 + 1))]) (q := 93) rfl rfl (Nat.le_of_ble_eq_true rfl) (by rw [oi_1]) rfl rfl ?_
          refine y_goto (q := 31) rfl rfl ?_
          exact lz_X7_limitsBy_31 hd v1 v2 v3 v4 v5 v6 h k hk n 1 (v8 + 1)  
        · skip
          refine y_aload_n (q := 52) rfl rfl rfl ?_
          refine y_iload_n (q := 53) rfl rfl rfl ?_
          refine y_iload (q := 55) rfl rfl rfl ?_
          refine y_callP (I := .invokevirtual 155) (idx := 155) (KD := 1) (J := 202) (mj := mj192) (as := [.ref 0, .int v2, .int v8]) (r := []) (q := 58) rfl (fun _ _ _ _ _ _ => rfl) rfl (by decide) rfl rfl rfl rfl rfl (Nat.le_of_ble_eq_true rfl) (d_recv atM0 (by decide) (by decide)) rfl (m_X7_knows (Nat.le_trans (by decide) hd) v2 v8 h) (fun r10 => ?_)
          refine y_aload_n (q := 59) rfl rfl rfl ?_
          refine y_getR (b := 17) (q := 62) rfl rfl (by decide) atM0 rfl rfl ?_
          refine y_bipush (x := 40) (q := 64) rfl (by decide) rfl ?_
          refine y_iload_n (q := 65) rfl rfl rfl ?_
          refine y_imul (q := 66) rfl rfl ?_
          refine y_iload (q := 68) rfl rfl rfl ?_
          refine y_iadd (q := 69) rfl rfl ?_
          refine y_guard (fun c11 => ?_)
          refine y_iald (n := 160) (N := 160) (X := ((40 * v1) + v8).toInt) (K := ((40 * v1) + v8).toInt.toNat) (q := 70) hbM rfl atM17 rfl rfl c11 rfl rfl ?_
          refine y_bipush (x := 20) (q := 72) rfl (by decide) rfl ?_
          refine y_lt (q := 79) (q' := 75) rfl rfl (by decide) rfl rfl (fun c12 => ?_) (fun c13 => ?_)
          · skip
            refine y_iconst (x := 0) (q := 80) rfl (by decide) rfl ?_
            refine y_ne (q := 87) (q' := 83) rfl rfl (by decide) rfl rfl (fun c14 => ?_) (fun c15 => ?_)
            · skip
              refine y_iconst (x := 1) (q := 84) rfl (by decide) rfl ?_
              refine y_goto (q := 88) rfl rfl ?_
              refine y_istore (lo' := [some (.ref 0), some (.int v1), some (.int v2), some (.int v3), some (.int v4), some (.int v5), some (.int v6), some (.int 1), some (.int v8)]) (q := 90) rfl (Nat.le_of_ble_eq_true rfl) rfl rfl ?_
              refine y_iinc (z := (v8 + 1)) (lo' := [some (.ref 0), some (.int v1), some (.int v2), some (.int v3), some (.int v4), some (.int v5), some (.int v6), some (.int 1), some (.int (v8 + 1))]) (q := 93) rfl rfl (Nat.le_of_ble_eq_true rfl) (by rw [oi_1]) rfl rfl ?_
              refine y_goto (q := 31) rfl rfl ?_
              exact lz_X7_limitsBy_31 hd v1 v2 v3 v4 v5 v6 h k hk n 1 (v8 + 1)  
            · skip
              refine y_iconst (x := 0) (q := 88) rfl (by decide) rfl ?_
              refine y_istore (lo' := [some (.ref 0), some (.int v1), some (.int v2), some (.int v3), some (.int v4), some (.int v5), some (.int v6), some (.int 0), some (.int v8)]) (q := 90) rfl (Nat.le_of_ble_eq_true rfl) rfl rfl ?_
              refine y_iinc (z := (v8 + 1)) (lo' := [some (.ref 0), some (.int v1), some (.int v2), some (.int v3), some (.int v4), some (.int v5), some (.int v6), some (.int 0), some (.int (v8 + 1))]) (q := 93) rfl rfl (Nat.le_of_ble_eq_true rfl) (by rw [oi_1]) rfl rfl ?_
              refine y_goto (q := 31) rfl rfl ?_
              exact lz_X7_limitsBy_31 hd v1 v2 v3 v4 v5 v6 h k hk n 0 (v8 + 1)  
          · skip
            refine y_iconst (x := 1) (q := 76) rfl (by decide) rfl ?_
            refine y_goto (q := 80) rfl rfl ?_
            refine y_ne (q := 87) (q' := 83) rfl rfl (by decide) rfl rfl (fun c16 => ?_) (fun c17 => ?_)
            · skip
              refine y_iconst (x := 1) (q := 84) rfl (by decide) rfl ?_
              refine y_goto (q := 88) rfl rfl ?_
              refine y_istore (lo' := [some (.ref 0), some (.int v1), some (.int v2), some (.int v3), some (.int v4), some (.int v5), some (.int v6), some (.int 1), some (.int v8)]) (q := 90) rfl (Nat.le_of_ble_eq_true rfl) rfl rfl ?_
              refine y_iinc (z := (v8 + 1)) (lo' := [some (.ref 0), some (.int v1), some (.int v2), some (.int v3), some (.int v4), some (.int v5), some (.int v6), some (.int 1), some (.int (v8 + 1))]) (q := 93) rfl rfl (Nat.le_of_ble_eq_true rfl) (by rw [oi_1]) rfl rfl ?_
              refine y_goto (q := 31) rfl rfl ?_
              exact lz_X7_limitsBy_31 hd v1 v2 v3 v4 v5 v6 h k hk n 1 (v8 + 1)  
            · skip
              refine y_iconst (x := 0) (q := 88) rfl (by decide) rfl ?_
              refine y_istore (lo' := [some (.ref 0), some (.int v1), some (.int v2), some (.int v3), some (.int v4), some (.int v5), some (.int v6), some (.int 0), some (.int v8)]) (q := 90) rfl (Nat.le_of_ble_eq_true rfl) rfl rfl ?_
              refine y_iinc (z := (v8 + 1)) (lo' := [some (.ref 0), some (.int v1), some (.int v2), some (.int v3), some (.int v4), some (.int v5), some (.int v6), some (.int 0), some (.int (v8 + 1))]) (q := 93) rfl rfl (Nat.le_of_ble_eq_true rfl) (by rw [oi_1]) rfl rfl ?_
              refine y_goto (q := 31) rfl rfl ?_
              exact lz_X7_limitsBy_31 hd v1 v2 v3 v4 v5 v6 h k hk n 0 (v8 + 1)  
    · skip
      exact hk v7 v8 
def l_X7_limitsBy_18 (v1 : Int32) (v2 : Int32) (k : Int32 → Int32 → dH → Option (Int32 × dH)) : Nat → Int32 → Int32 → dH → Option (Int32 × dH)
  | 0, _, _, _ => none
  | n + 1, v5, v6, h => if 0 < (h 0 8).toInt then (l_X7_limitsBy_31 v1 v2 h (fun v7_18 => if v7_18.toInt = 0 then (if v7_18.toInt = 0 then (oH (dU h 0 8 ((h 0 8) - 1)) (fun g24 => l_X7_limitsBy_18 v1 v2 k n (v5 + 0) v6 g24)) else (oH (dU h 0 8 ((h 0 8) - 1)) (fun g25 => l_X7_limitsBy_18 v1 v2 k n (v5 + 0) (h 0 8) g25))) else (if v7_18.toInt = 0 then (oH (dU h 0 8 ((h 0 8) - 1)) (fun g28 => l_X7_limitsBy_18 v1 v2 k n (v5 + 1) v6 g28)) else (oH (dU h 0 8 ((h 0 8) - 1)) (fun g29 => l_X7_limitsBy_18 v1 v2 k n (v5 + 1) (h 0 8) g29)))) fuel0 1 0 ) else (k v5 v6 h)
theorem lz_X7_limitsBy_18 {d : Nat} (hd : 2 ≤ d) (v1 : Int32) (v2 : Int32) (v3 : Int32) (v4 : Int32) (k : Int32 → Int32 → dH → Option (Int32 × dH)) (hk : ∀ (v5 : Int32) (v6 : Int32) (z7 : Option Value) (z8 : Option Value) (h : dH), dY shM d mj217 dI (k v5 v6 h) 140 [some (.ref 0), some (.int v1), some (.int v2), some (.int v3), some (.int v4), some (.int v5), some (.int v6), z7, z8] [] h) : ∀ (n : Nat) (v5 : Int32) (v6 : Int32) (h : dH) (z7 : Option Value) (z8 : Option Value), dY shM d mj217 dI (l_X7_limitsBy_18 v1 v2 k n v5 v6 h) 18 [some (.ref 0), some (.int v1), some (.int v2), some (.int v3), some (.int v4), some (.int v5), some (.int v6), z7, z8] [] h
  | 0, _, _, _, _, _ => dY_none
  | n + 1, v5, v6, h, z7, z8 => by
    rw [l_X7_limitsBy_18]
    refine y_aload_n (q := 19) rfl rfl rfl ?_
    refine y_getI (q := 22) rfl rfl (by decide) atM0 rfl rfl ?_
    refine y_le0 (q := 140) (q' := 25) rfl rfl rfl rfl (fun c2 => ?_) (fun c3 => ?_)
    · skip
      refine y_iconst (x := 1) (q := 26) rfl (by decide) rfl ?_
      refine y_istore (lo' := [some (.ref 0), some (.int v1), some (.int v2), some (.int v3), some (.int v4), some (.int v5), some (.int v6), some (.int 1), z8]) (q := 28) rfl (Nat.le_of_ble_eq_true rfl) rfl rfl ?_
      refine y_iconst (x := 0) (q := 29) rfl (by decide) rfl ?_
      refine y_istore (lo' := [some (.ref 0), some (.int v1), some (.int v2), some (.int v3), some (.int v4), some (.int v5), some (.int v6), some (.int 1), some (.int 0)]) (q := 31) rfl (Nat.le_of_ble_eq_true rfl) rfl rfl ?_
      refine lz_X7_limitsBy_31 hd v1 v2 v3 v4 v5 v6 h _ (fun v7_18 z19 => ?_) fuel0 1 0  
      refine y_iload (q := 98) rfl rfl rfl ?_
      refine y_iload (q := 100) rfl rfl rfl ?_
      refine y_eq0 (q := 107) (q' := 103) rfl rfl rfl rfl (fun c20 => ?_) (fun c21 => ?_)
      · skip
        refine y_iconst (x := 0) (q := 108) rfl (by decide) rfl ?_
        refine y_iadd (q := 109) rfl rfl ?_
        refine y_istore (lo' := [some (.ref 0), some (.int v1), some (.int v2), some (.int v3), some (.int v4), some (.int (v5 + 0)), some (.int v6), some (.int v7_18), some (.int z19)]) (q := 111) rfl (Nat.le_of_ble_eq_true rfl) rfl rfl ?_
        refine y_iload (q := 113) rfl rfl rfl ?_
        refine y_eq0 (q := 123) (q' := 116) rfl rfl rfl rfl (fun c22 => ?_) (fun c23 => ?_)
        · skip
          refine y_iload (q := 125) rfl rfl rfl ?_
          refine y_istore (lo' := [some (.ref 0), some (.int v1), some (.int v2), some (.int v3), some (.int v4), some (.int (v5 + 0)), some (.int v6), some (.int v7_18), some (.int z19)]) (q := 127) rfl (Nat.le_of_ble_eq_true rfl) rfl rfl ?_
          refine y_aload_n (q := 128) rfl rfl rfl ?_
          refine y_dup (q := 129) rfl rfl ?_
          refine y_getI (q := 132) rfl rfl (by decide) atM0 rfl rfl ?_
          refine y_iconst (x := 1) (q := 133) rfl (by decide) rfl ?_
          refine y_isub (q := 134) rfl rfl ?_
          refine y_putI (q := 137) rfl rfl (by decide) atM0 rfl rfl rfl rfl (fun g24 => ?_)
          refine y_goto (q := 18) rfl rfl ?_
          exact lz_X7_limitsBy_18 hd v1 v2 v3 v4 k hk n (v5 + 0) v6 g24 (some (.int v7_18)) (some (.int z19))
        · skip
          refine y_aload_n (q := 117) rfl rfl rfl ?_
          refine y_getI (q := 120) rfl rfl (by decide) atM0 rfl rfl ?_
          refine y_goto (q := 125) rfl rfl ?_
          refine y_istore (lo' := [some (.ref 0), some (.int v1), some (.int v2), some (.int v3), some (.int v4), some (.int (v5 + 0)), some (.int (h 0 8)), some (.int v7_18), some (.int z19)]) (q := 127) rfl (Nat.le_of_ble_eq_true rfl) rfl rfl ?_
          refine y_aload_n (q := 128) rfl rfl rfl ?_
          refine y_dup (q := 129) rfl rfl ?_
          refine y_getI (q := 132) rfl rfl (by decide) atM0 rfl rfl ?_
          refine y_iconst (x := 1) (q := 133) rfl (by decide) rfl ?_
          refine y_isub (q := 134) rfl rfl ?_
          refine y_putI (q := 137) rfl rfl (by decide) atM0 rfl rfl rfl rfl (fun g25 => ?_)
          refine y_goto (q := 18) rfl rfl ?_
          exact lz_X7_limitsBy_18 hd v1 v2 v3 v4 k hk n (v5 + 0) (h 0 8) g25 (some (.int v7_18)) (some (.int z19))
      · skip
        refine y_iconst (x := 1) (q := 104) rfl (by decide) rfl ?_
        refine y_goto (q := 108) rfl rfl ?_
        refine y_iadd (q := 109) rfl rfl ?_
        refine y_istore (lo' := [some (.ref 0), some (.int v1), some (.int v2), some (.int v3), some (.int v4), some (.int (v5 + 1)), some (.int v6), some (.int v7_18), some (.int z19)]) (q := 111) rfl (Nat.le_of_ble_eq_true rfl) rfl rfl ?_
        refine y_iload (q := 113) rfl rfl rfl ?_
        refine y_eq0 (q := 123) (q' := 116) rfl rfl rfl rfl (fun c26 => ?_) (fun c27 => ?_)
        · skip
          refine y_iload (q := 125) rfl rfl rfl ?_
          refine y_istore (lo' := [some (.ref 0), some (.int v1), some (.int v2), some (.int v3), some (.int v4), some (.int (v5 + 1)), some (.int v6), some (.int v7_18), some (.int z19)]) (q := 127) rfl (Nat.le_of_ble_eq_true rfl) rfl rfl ?_
          refine y_aload_n (q := 128) rfl rfl rfl ?_
          refine y_dup (q := 129) rfl rfl ?_
          refine y_getI (q := 132) rfl rfl (by decide) atM0 rfl rfl ?_
          refine y_iconst (x := 1) (q := 133) rfl (by decide) rfl ?_
          refine y_isub (q := 134) rfl rfl ?_
          refine y_putI (q := 137) rfl rfl (by decide) atM0 rfl rfl rfl rfl (fun g28 => ?_)
          refine y_goto (q := 18) rfl rfl ?_
          exact lz_X7_limitsBy_18 hd v1 v2 v3 v4 k hk n (v5 + 1) v6 g28 (some (.int v7_18)) (some (.int z19))
        · skip
          refine y_aload_n (q := 117) rfl rfl rfl ?_
          refine y_getI (q := 120) rfl rfl (by decide) atM0 rfl rfl ?_
          refine y_goto (q := 125) rfl rfl ?_
          refine y_istore (lo' := [some (.ref 0), some (.int v1), some (.int v2), some (.int v3), some (.int v4), some (.int (v5 + 1)), some (.int (h 0 8)), some (.int v7_18), some (.int z19)]) (q := 127) rfl (Nat.le_of_ble_eq_true rfl) rfl rfl ?_
          refine y_aload_n (q := 128) rfl rfl rfl ?_
          refine y_dup (q := 129) rfl rfl ?_
          refine y_getI (q := 132) rfl rfl (by decide) atM0 rfl rfl ?_
          refine y_iconst (x := 1) (q := 133) rfl (by decide) rfl ?_
          refine y_isub (q := 134) rfl rfl ?_
          refine y_putI (q := 137) rfl rfl (by decide) atM0 rfl rfl rfl rfl (fun g29 => ?_)
          refine y_goto (q := 18) rfl rfl ?_
          exact lz_X7_limitsBy_18 hd v1 v2 v3 v4 k hk n (v5 + 1) (h 0 8) g29 (some (.int v7_18)) (some (.int z19))
    · skip
      exact hk v5 v6 (z7) (z8) h
def f_X7_limitsBy (v1 : Int32) (v2 : Int32) (v3 : Int32) (h : dH) : Option (Int32 × dH) := oH (dU h 0 8 99) (fun g1 => l_X7_limitsBy_18 v1 v2  (fun v5_30 v6_31 g34 => oH (dU g34 0 8 (h 0 8)) (fun g35 => if v3.toInt = 0 then (some (v6_31, g35)) else (some (v5_30, g35)))) fuel0 0 (-1) g1)
theorem m_X7_limitsBy {d : Nat} (hd : 3 ≤ d) (v1 : Int32) (v2 : Int32) (v3 : Int32) (h : dH) : dX shM d 217 [.ref 0, .int v1, .int v2, .int v3] dI (f_X7_limitsBy v1 v2 v3 h) h := by
  obtain ⟨e, rfl⟩ : ∃ e, d = e + 1 := ⟨d - 1, by omega⟩
  have hd : 2 ≤ e := by omega
  refine dX_of (mj := mj217) (lo := [some (.ref 0), some (.int v1), some (.int v2), some (.int v3), none, none, none, none, none]) rfl (Nat.le_of_ble_eq_true rfl) rfl ?_
  unfold f_X7_limitsBy
  refine y_aload_n (q := 1) rfl rfl rfl ?_
  refine y_getI (q := 4) rfl rfl (by decide) atM0 rfl rfl ?_
  refine y_istore (lo' := [some (.ref 0), some (.int v1), some (.int v2), some (.int v3), some (.int (h 0 8)), none, none, none, none]) (q := 6) rfl (Nat.le_of_ble_eq_true rfl) rfl rfl ?_
  refine y_iconst (x := 0) (q := 7) rfl (by decide) rfl ?_
  refine y_istore (lo' := [some (.ref 0), some (.int v1), some (.int v2), some (.int v3), some (.int (h 0 8)), some (.int 0), none, none, none]) (q := 9) rfl (Nat.le_of_ble_eq_true rfl) rfl rfl ?_
  refine y_iconst (x := (-1)) (q := 10) rfl (by decide) rfl ?_
  refine y_istore (lo' := [some (.ref 0), some (.int v1), some (.int v2), some (.int v3), some (.int (h 0 8)), some (.int 0), some (.int (-1)), none, none]) (q := 12) rfl (Nat.le_of_ble_eq_true rfl) rfl rfl ?_
  refine y_aload_n (q := 13) rfl rfl rfl ?_
  refine y_bipush (x := 99) (q := 15) rfl (by decide) rfl ?_
  refine y_putI (q := 18) rfl rfl (by decide) atM0 rfl rfl rfl rfl (fun g1 => ?_)
  refine lz_X7_limitsBy_18 hd v1 v2 v3 (h 0 8)  _ (fun v5_30 v6_31 z32 z33 g34 => ?_) fuel0 0 (-1) g1 (none) (none)
  refine y_aload_n (q := 141) rfl rfl rfl ?_
  refine y_iload (q := 143) rfl rfl rfl ?_
  refine y_putI (q := 146) rfl rfl (by decide) atM0 rfl rfl rfl rfl (fun g35 => ?_)
  refine y_iload_n (q := 147) rfl rfl rfl ?_
  refine y_eq0 (q := 155) (q' := 150) rfl rfl rfl rfl (fun c36 => ?_) (fun c37 => ?_)
  · skip
    refine y_iload (q := 157) rfl rfl rfl ?_
    exact y_retI rfl (by decide) rfl rfl
  · skip
    refine y_iload (q := 152) rfl rfl rfl ?_
    refine y_goto (q := 157) rfl rfl ?_
    exact y_retI rfl (by decide) rfl rfl
def f_X7_isSheet (v0 : Int32) : Option (Int32) := oP (f_X7_in (v0.toInt64) 0 3) (fun r1 => if r1 = 0 ∨ r1 = 1 then (some r1) else none)
theorem m_X7_isSheet {d : Nat} (hd : 2 ≤ d) (v0 : Int32) (h : dH) : dX shM d 226 [.int v0] (dP h) (f_X7_isSheet v0) h := by
  obtain ⟨e, rfl⟩ : ∃ e, d = e + 1 := ⟨d - 1, by omega⟩
  have hd : 1 ≤ e := by omega
  refine dX_of (mj := mj226) (lo := [some (.int v0)]) rfl (Nat.le_of_ble_eq_true rfl) rfl ?_
  unfold f_X7_isSheet
  refine y_iload_n (q := 1) rfl rfl rfl ?_
  refine y_i2l (q := 2) rfl rfl ?_
  refine y_lconst (u := 0) (q := 3) rfl (by decide) rfl ?_
  refine y_ldc2_w (u := 3) (q := 6) rfl rfl rfl ?_
  refine y_callP (I := .invokestatic 91) (idx := 91) (KD := 0) (J := 128) (mj := mj118) (as := [.long v0.toInt64, .long 0, .long 3]) (r := []) (q := 9) rfl (fun _ _ _ _ _ _ => rfl) rfl (by decide) rfl rfl rfl rfl rfl (Nat.le_of_ble_eq_true rfl) rfl rfl (m_X7_in (Nat.le_trans (by decide) hd) (v0.toInt64) 0 3 h) (fun r1 => ?_)
  refine y_guard (fun c2 => ?_)
  exact y_retP rfl (by decide) rfl (d_bool c2)
def l_X7_tells_175 (v1 : Int32) (v2 : Int32) (v4 : Int32) (v6 : Int32) (k : Int32 → dH → Option (Int32 × dH)) : Nat → Int32 → Int32 → dH → Option (Int32 × dH)
  | 0, _, _, _ => none
  | n + 1, v7, v8, h => if v8.toInt < v6.toInt then (oV (f_X7_lays v4 v2 v8 h) (fun g36 => oI (f_X7_unlike v1 v2 g36) (fun r37 g38 => if r37.toInt = 0 then (l_X7_tells_175 v1 v2 v4 v6 k n (v7 ||| (dshl 1 v8)) (v8 + 1) g38) else (l_X7_tells_175 v1 v2 v4 v6 k n (v7 ||| (dshl 0 v8)) (v8 + 1) g38)))) else (k v7 h)
theorem lz_X7_tells_175 {d : Nat} (hd : 46 ≤ d) (v1 : Int32) (v2 : Int32) (v3 : Int32) (v4 : Int32) (v5 : Int32) (v6 : Int32) (k : Int32 → dH → Option (Int32 × dH)) (hk : ∀ (v7 : Int32) (w8 : Int32) (h : dH), dY shM d mj218 dI (k v7 h) 219 [some (.ref 0), some (.int v1), some (.int v2), some (.int v3), some (.int v4), some (.int v5), some (.int v6), some (.int v7), some (.int w8)] [] h) : ∀ (n : Nat) (v7 : Int32) (v8 : Int32) (h : dH), dY shM d mj218 dI (l_X7_tells_175 v1 v2 v4 v6 k n v7 v8 h) 175 [some (.ref 0), some (.int v1), some (.int v2), some (.int v3), some (.int v4), some (.int v5), some (.int v6), some (.int v7), some (.int v8)] [] h
  | 0, _, _, _ => dY_none
  | n + 1, v7, v8, h => by
    rw [l_X7_tells_175]
    refine y_iload (q := 177) rfl rfl rfl ?_
    refine y_iload (q := 179) rfl rfl rfl ?_
    refine y_ge (q := 219) (q' := 182) rfl rfl rfl rfl rfl (fun c34 => ?_) (fun c35 => ?_)
    · skip
      refine y_aload_n (q := 183) rfl rfl rfl ?_
      refine y_iload (q := 185) rfl rfl rfl ?_
      refine y_iload_n (q := 186) rfl rfl rfl ?_
      refine y_iload (q := 188) rfl rfl rfl ?_
      refine y_callV (I := .invokevirtual 117) (idx := 117) (KD := 1) (J := 135) (mj := mj125) (as := [.ref 0, .int v4, .int v2, .int v8]) (r := []) (q := 191) rfl (fun _ _ _ _ _ _ => rfl) rfl (by decide) rfl rfl rfl rfl rfl (Nat.le_of_ble_eq_true rfl) (d_recv atM0 (by decide) (by decide)) rfl (m_X7_lays (Nat.le_trans (by decide) hd) v4 v2 v8 h) (fun g36 => ?_)
      refine y_iload (q := 193) rfl rfl rfl ?_
      refine y_aload_n (q := 194) rfl rfl rfl ?_
      refine y_iload_n (q := 195) rfl rfl rfl ?_
      refine y_iload_n (q := 196) rfl rfl rfl ?_
      refine y_callI (I := .invokevirtual 441) (idx := 441) (KD := 1) (J := 226) (mj := mj216) (as := [.ref 0, .int v1, .int v2]) (r := [.int v7]) (q := 199) rfl (fun _ _ _ _ _ _ => rfl) rfl (by decide) rfl rfl rfl rfl rfl (Nat.le_of_ble_eq_true rfl) (d_recv atM0 (by decide) (by decide)) rfl (m_X7_unlike (Nat.le_trans (by decide) hd) v1 v2 g36) (fun r37 g38 => ?_)
      refine y_ne0 (q := 206) (q' := 202) rfl rfl rfl rfl (fun c39 => ?_) (fun c40 => ?_)
      · skip
        refine y_iconst (x := 1) (q := 203) rfl (by decide) rfl ?_
        refine y_goto (q := 207) rfl rfl ?_
        refine y_iload (q := 209) rfl rfl rfl ?_
        refine y_ishl (q := 210) rfl rfl ?_
        refine y_ior (q := 211) rfl rfl ?_
        refine y_istore (lo' := [some (.ref 0), some (.int v1), some (.int v2), some (.int v3), some (.int v4), some (.int v5), some (.int v6), some (.int (v7 ||| (dshl 1 v8))), some (.int v8)]) (q := 213) rfl (Nat.le_of_ble_eq_true rfl) rfl rfl ?_
        refine y_iinc (z := (v8 + 1)) (lo' := [some (.ref 0), some (.int v1), some (.int v2), some (.int v3), some (.int v4), some (.int v5), some (.int v6), some (.int (v7 ||| (dshl 1 v8))), some (.int (v8 + 1))]) (q := 216) rfl rfl (Nat.le_of_ble_eq_true rfl) (by rw [oi_1]) rfl rfl ?_
        refine y_goto (q := 175) rfl rfl ?_
        exact lz_X7_tells_175 hd v1 v2 v3 v4 v5 v6 k hk n (v7 ||| (dshl 1 v8)) (v8 + 1) g38 
      · skip
        refine y_iconst (x := 0) (q := 207) rfl (by decide) rfl ?_
        refine y_iload (q := 209) rfl rfl rfl ?_
        refine y_ishl (q := 210) rfl rfl ?_
        refine y_ior (q := 211) rfl rfl ?_
        refine y_istore (lo' := [some (.ref 0), some (.int v1), some (.int v2), some (.int v3), some (.int v4), some (.int v5), some (.int v6), some (.int (v7 ||| (dshl 0 v8))), some (.int v8)]) (q := 213) rfl (Nat.le_of_ble_eq_true rfl) rfl rfl ?_
        refine y_iinc (z := (v8 + 1)) (lo' := [some (.ref 0), some (.int v1), some (.int v2), some (.int v3), some (.int v4), some (.int v5), some (.int v6), some (.int (v7 ||| (dshl 0 v8))), some (.int (v8 + 1))]) (q := 216) rfl rfl (Nat.le_of_ble_eq_true rfl) (by rw [oi_1]) rfl rfl ?_
        refine y_goto (q := 175) rfl rfl ?_
        exact lz_X7_tells_175 hd v1 v2 v3 v4 v5 v6 k hk n (v7 ||| (dshl 0 v8)) (v8 + 1) g38 
    · skip
      exact hk v7 v8 h
def f_X7_tells (v1 : Int32) (v2 : Int32) (v3 : Int32) (h : dH) : Option (Int32 × dH) := oP (f_X7_isSheet v1) (fun r1 => if r1.toInt = 0 then (some ((-2), h)) else (oP (f_X7_isHouse v2 h) (fun r4 => if r4.toInt = 0 then (some ((-2), h)) else (oP (f_X7_in (v3.toInt64) 0 6) (fun r7 => if r7.toInt = 0 then (some ((-2), h)) else (if 0 ≤ v1.toInt ∧ v1.toInt < 4 then (if (h 14 (v1.toInt.toNat)).toInt = 0 then (some ((-11), h)) else (if 0 ≤ v1.toInt ∧ v1.toInt < 4 then (if (h 16 (v1.toInt.toNat)).toInt = (h 0 13).toInt then (if v3.toInt = 0 then (oI (f_X7_unlike v1 v2 h) (fun r18 g19 => some (r18, g19))) else (if 4 < v3.toInt then (if v3.toInt = 5 then (oI (f_X7_limitsBy v1 v2 1 h) (fun r24 g25 => some (r24, g25))) else (oI (f_X7_limitsBy v1 v2 0 h) (fun r26 g27 => some (r26, g27)))) else (if v3.toInt = 1 then (oI (f_X7_told v2 4 h) (fun r30 g31 => if v3.toInt = 1 then (l_X7_tells_175 v1 v2 4 6  (fun v7_41 g43 => oV (f_X7_lays 4 v2 r30 g43) (fun g44 => some (v7_41, g44))) fuel0 0 0 g31) else (if v3.toInt = 2 then (l_X7_tells_175 v1 v2 4 10  (fun v7_47 g49 => oV (f_X7_lays 4 v2 r30 g49) (fun g50 => some (v7_47, g50))) fuel0 0 0 g31) else (if v3.toInt = 3 then (l_X7_tells_175 v1 v2 4 4  (fun v7_53 g55 => oV (f_X7_lays 4 v2 r30 g55) (fun g56 => some (v7_53, g56))) fuel0 0 0 g31) else (l_X7_tells_175 v1 v2 4 (g31 0 3)  (fun v7_57 g59 => oV (f_X7_lays 4 v2 r30 g59) (fun g60 => some (v7_57, g60))) fuel0 0 0 g31))))) else (if v3.toInt = 4 then (if v3.toInt = 1 then (l_X7_tells_175 v1 v2 5 6  (fun v7_65 g67 => oV (f_X7_lays 5 v2 (h 0 4) g67) (fun g68 => some (v7_65, g68))) fuel0 0 0 h) else (if v3.toInt = 2 then (l_X7_tells_175 v1 v2 5 10  (fun v7_71 g73 => oV (f_X7_lays 5 v2 (h 0 4) g73) (fun g74 => some (v7_71, g74))) fuel0 0 0 h) else (if v3.toInt = 3 then (l_X7_tells_175 v1 v2 5 4  (fun v7_77 g79 => oV (f_X7_lays 5 v2 (h 0 4) g79) (fun g80 => some (v7_77, g80))) fuel0 0 0 h) else (l_X7_tells_175 v1 v2 5 (h 0 3)  (fun v7_81 g83 => oV (f_X7_lays 5 v2 (h 0 4) g83) (fun g84 => some (v7_81, g84))) fuel0 0 0 h)))) else (if v3.toInt = 5 then (if v3.toInt = 1 then (l_X7_tells_175 v1 v2 v3 6  (fun v7_89 g91 => oV (f_X7_lays v3 v2 (h 0 4) g91) (fun g92 => some (v7_89, g92))) fuel0 0 0 h) else (if v3.toInt = 2 then (l_X7_tells_175 v1 v2 v3 10  (fun v7_95 g97 => oV (f_X7_lays v3 v2 (h 0 4) g97) (fun g98 => some (v7_95, g98))) fuel0 0 0 h) else (if v3.toInt = 3 then (l_X7_tells_175 v1 v2 v3 4  (fun v7_101 g103 => oV (f_X7_lays v3 v2 (h 0 4) g103) (fun g104 => some (v7_101, g104))) fuel0 0 0 h) else (l_X7_tells_175 v1 v2 v3 (h 0 3)  (fun v7_105 g107 => oV (f_X7_lays v3 v2 (h 0 4) g107) (fun g108 => some (v7_105, g108))) fuel0 0 0 h)))) else (oI (f_X7_told v2 v3 h) (fun r109 g110 => if v3.toInt = 1 then (l_X7_tells_175 v1 v2 v3 6  (fun v7_113 g115 => oV (f_X7_lays v3 v2 r109 g115) (fun g116 => some (v7_113, g116))) fuel0 0 0 g110) else (if v3.toInt = 2 then (l_X7_tells_175 v1 v2 v3 10  (fun v7_119 g121 => oV (f_X7_lays v3 v2 r109 g121) (fun g122 => some (v7_119, g122))) fuel0 0 0 g110) else (if v3.toInt = 3 then (l_X7_tells_175 v1 v2 v3 4  (fun v7_125 g127 => oV (f_X7_lays v3 v2 r109 g127) (fun g128 => some (v7_125, g128))) fuel0 0 0 g110) else (l_X7_tells_175 v1 v2 v3 (g110 0 3)  (fun v7_129 g131 => oV (f_X7_lays v3 v2 r109 g131) (fun g132 => some (v7_129, g132))) fuel0 0 0 g110)))))))))) else (some ((-2), h))) else none)) else none))))))
theorem m_X7_tells {d : Nat} (hd : 47 ≤ d) (v1 : Int32) (v2 : Int32) (v3 : Int32) (h : dH) : dX shM d 218 [.ref 0, .int v1, .int v2, .int v3] dI (f_X7_tells v1 v2 v3 h) h := by
  obtain ⟨e, rfl⟩ : ∃ e, d = e + 1 := ⟨d - 1, by omega⟩
  have hd : 46 ≤ e := by omega
  refine dX_of (mj := mj218) (lo := [some (.ref 0), some (.int v1), some (.int v2), some (.int v3), none, none, none, none, none]) rfl (Nat.le_of_ble_eq_true rfl) rfl ?_
  unfold f_X7_tells
  refine y_iload_n (q := 1) rfl rfl rfl ?_
  refine y_callP (I := .invokestatic 436) (idx := 436) (KD := 0) (J := 236) (mj := mj226) (as := [.int v1]) (r := []) (q := 4) rfl (fun _ _ _ _ _ _ => rfl) rfl (by decide) rfl rfl rfl rfl rfl (Nat.le_of_ble_eq_true rfl) rfl rfl (m_X7_isSheet (Nat.le_trans (by decide) hd) v1 h) (fun r1 => ?_)
  refine y_eq0 (q := 27) (q' := 7) rfl rfl rfl rfl (fun c2 => ?_) (fun c3 => ?_)
  · skip
    refine y_bipush (x := (-2)) (q := 29) rfl (by decide) rfl ?_
    exact y_retI rfl (by decide) rfl rfl
  · skip
    refine y_aload_n (q := 8) rfl rfl rfl ?_
    refine y_iload_n (q := 9) rfl rfl rfl ?_
    refine y_callP (I := .invokevirtual 105) (idx := 105) (KD := 1) (J := 132) (mj := mj122) (as := [.ref 0, .int v2]) (r := []) (q := 12) rfl (fun _ _ _ _ _ _ => rfl) rfl (by decide) rfl rfl rfl rfl rfl (Nat.le_of_ble_eq_true rfl) (d_recv atM0 (by decide) (by decide)) rfl (m_X7_isHouse (Nat.le_trans (by decide) hd) v2 h) (fun r4 => ?_)
    refine y_eq0 (q := 27) (q' := 15) rfl rfl rfl rfl (fun c5 => ?_) (fun c6 => ?_)
    · skip
      refine y_bipush (x := (-2)) (q := 29) rfl (by decide) rfl ?_
      exact y_retI rfl (by decide) rfl rfl
    · skip
      refine y_iload_n (q := 16) rfl rfl rfl ?_
      refine y_i2l (q := 17) rfl rfl ?_
      refine y_lconst (u := 0) (q := 18) rfl (by decide) rfl ?_
      refine y_ldc2_w (u := 6) (q := 21) rfl rfl rfl ?_
      refine y_callP (I := .invokestatic 91) (idx := 91) (KD := 0) (J := 128) (mj := mj118) (as := [.long v3.toInt64, .long 0, .long 6]) (r := []) (q := 24) rfl (fun _ _ _ _ _ _ => rfl) rfl (by decide) rfl rfl rfl rfl rfl (Nat.le_of_ble_eq_true rfl) rfl rfl (m_X7_in (Nat.le_trans (by decide) hd) (v3.toInt64) 0 6 h) (fun r7 => ?_)
      refine y_ne0 (q := 30) (q' := 27) rfl rfl rfl rfl (fun c8 => ?_) (fun c9 => ?_)
      · skip
        refine y_bipush (x := (-2)) (q := 29) rfl (by decide) rfl ?_
        exact y_retI rfl (by decide) rfl rfl
      · skip
        refine y_aload_n (q := 31) rfl rfl rfl ?_
        refine y_getR (b := 14) (q := 34) rfl rfl (by decide) atM0 rfl rfl ?_
        refine y_iload_n (q := 35) rfl rfl rfl ?_
        refine y_guard (fun c10 => ?_)
        refine y_bald (n := 4) (N := 4) (X := v1.toInt) (K := v1.toInt.toNat) (q := 36) hbM rfl atM14 rfl rfl c10 rfl rfl ?_
        refine y_ne0 (q := 42) (q' := 39) rfl rfl rfl rfl (fun c11 => ?_) (fun c12 => ?_)
        · skip
          refine y_bipush (x := (-11)) (q := 41) rfl (by decide) rfl ?_
          exact y_retI rfl (by decide) rfl rfl
        · skip
          refine y_aload_n (q := 43) rfl rfl rfl ?_
          refine y_getR (b := 16) (q := 46) rfl rfl (by decide) atM0 rfl rfl ?_
          refine y_iload_n (q := 47) rfl rfl rfl ?_
          refine y_guard (fun c13 => ?_)
          refine y_iald (n := 4) (N := 4) (X := v1.toInt) (K := v1.toInt.toNat) (q := 48) hbM rfl atM16 rfl rfl c13 rfl rfl ?_
          refine y_aload_n (q := 49) rfl rfl rfl ?_
          refine y_getI (q := 52) rfl rfl (by decide) atM0 rfl rfl ?_
          refine y_eq (q := 58) (q' := 55) rfl rfl rfl rfl rfl (fun c14 => ?_) (fun c15 => ?_)
          · skip
            refine y_iload_n (q := 59) rfl rfl rfl ?_
            refine y_ne0 (q := 69) (q' := 62) rfl rfl rfl rfl (fun c16 => ?_) (fun c17 => ?_)
            · skip
              refine y_aload_n (q := 63) rfl rfl rfl ?_
              refine y_iload_n (q := 64) rfl rfl rfl ?_
              refine y_iload_n (q := 65) rfl rfl rfl ?_
              refine y_callI (I := .invokevirtual 441) (idx := 441) (KD := 1) (J := 226) (mj := mj216) (as := [.ref 0, .int v1, .int v2]) (r := []) (q := 68) rfl (fun _ _ _ _ _ _ => rfl) rfl (by decide) rfl rfl rfl rfl rfl (Nat.le_of_ble_eq_true rfl) (d_recv atM0 (by decide) (by decide)) rfl (m_X7_unlike (Nat.le_trans (by decide) hd) v1 v2 h) (fun r18 g19 => ?_)
              exact y_retI rfl (by decide) rfl rfl
            · skip
              refine y_iload_n (q := 70) rfl rfl rfl ?_
              refine y_iconst (x := 4) (q := 71) rfl (by decide) rfl ?_
              refine y_le (q := 91) (q' := 74) rfl rfl (by decide) rfl rfl (fun c20 => ?_) (fun c21 => ?_)
              · skip
                refine y_aload_n (q := 75) rfl rfl rfl ?_
                refine y_iload_n (q := 76) rfl rfl rfl ?_
                refine y_iload_n (q := 77) rfl rfl rfl ?_
                refine y_iload_n (q := 78) rfl rfl rfl ?_
                refine y_iconst (x := 5) (q := 79) rfl (by decide) rfl ?_
                refine y_ne (q := 86) (q' := 82) rfl rfl (by decide) rfl rfl (fun c22 => ?_) (fun c23 => ?_)
                · skip
                  refine y_iconst (x := 1) (q := 83) rfl (by decide) rfl ?_
                  refine y_goto (q := 87) rfl rfl ?_
                  refine y_callI (I := .invokevirtual 444) (idx := 444) (KD := 1) (J := 227) (mj := mj217) (as := [.ref 0, .int v1, .int v2, .int 1]) (r := []) (q := 90) rfl (fun _ _ _ _ _ _ => rfl) rfl (by decide) rfl rfl rfl rfl rfl (Nat.le_of_ble_eq_true rfl) (d_recv atM0 (by decide) (by decide)) rfl (m_X7_limitsBy (Nat.le_trans (by decide) hd) v1 v2 1 h) (fun r24 g25 => ?_)
                  exact y_retI rfl (by decide) rfl rfl
                · skip
                  refine y_iconst (x := 0) (q := 87) rfl (by decide) rfl ?_
                  refine y_callI (I := .invokevirtual 444) (idx := 444) (KD := 1) (J := 227) (mj := mj217) (as := [.ref 0, .int v1, .int v2, .int 0]) (r := []) (q := 90) rfl (fun _ _ _ _ _ _ => rfl) rfl (by decide) rfl rfl rfl rfl rfl (Nat.le_of_ble_eq_true rfl) (d_recv atM0 (by decide) (by decide)) rfl (m_X7_limitsBy (Nat.le_trans (by decide) hd) v1 v2 0 h) (fun r26 g27 => ?_)
                  exact y_retI rfl (by decide) rfl rfl
              · skip
                refine y_iload_n (q := 92) rfl rfl rfl ?_
                refine y_iconst (x := 1) (q := 93) rfl (by decide) rfl ?_
                refine y_ne (q := 100) (q' := 96) rfl rfl (by decide) rfl rfl (fun c28 => ?_) (fun c29 => ?_)
                · skip
                  refine y_iconst (x := 4) (q := 97) rfl (by decide) rfl ?_
                  refine y_goto (q := 110) rfl rfl ?_
                  refine y_istore (lo' := [some (.ref 0), some (.int v1), some (.int v2), some (.int v3), some (.int 4), none, none, none, none]) (q := 112) rfl (Nat.le_of_ble_eq_true rfl) rfl rfl ?_
                  refine y_iload (q := 114) rfl rfl rfl ?_
                  refine y_iconst (x := 5) (q := 115) rfl (by decide) rfl ?_
                  refine y_icmpT (q := 125) rfl (by decide) rfl ?_
                  refine y_aload_n (q := 126) rfl rfl rfl ?_
                  refine y_iload_n (q := 127) rfl rfl rfl ?_
                  refine y_iload (q := 129) rfl rfl rfl ?_
                  refine y_callI (I := .invokevirtual 113) (idx := 113) (KD := 1) (J := 141) (mj := mj131) (as := [.ref 0, .int v2, .int 4]) (r := []) (q := 132) rfl (fun _ _ _ _ _ _ => rfl) rfl (by decide) rfl rfl rfl rfl rfl (Nat.le_of_ble_eq_true rfl) (d_recv atM0 (by decide) (by decide)) rfl (m_X7_told (Nat.le_trans (by decide) hd) v2 4 h) (fun r30 g31 => ?_)
                  refine y_istore (lo' := [some (.ref 0), some (.int v1), some (.int v2), some (.int v3), some (.int 4), some (.int r30), none, none, none]) (q := 134) rfl (Nat.le_of_ble_eq_true rfl) rfl rfl ?_
                  refine y_iload_n (q := 135) rfl rfl rfl ?_
                  refine y_iconst (x := 1) (q := 136) rfl (by decide) rfl ?_
                  refine y_ne (q := 144) (q' := 139) rfl rfl (by decide) rfl rfl (fun c32 => ?_) (fun c33 => ?_)
                  · skip
                    refine y_bipush (x := 6) (q := 141) rfl (by decide) rfl ?_
                    refine y_goto (q := 167) rfl rfl ?_
                    refine y_istore (lo' := [some (.ref 0), some (.int v1), some (.int v2), some (.int v3), some (.int 4), some (.int r30), some (.int 6), none, none]) (q := 169) rfl (Nat.le_of_ble_eq_true rfl) rfl rfl ?_
                    refine y_iconst (x := 0) (q := 170) rfl (by decide) rfl ?_
                    refine y_istore (lo' := [some (.ref 0), some (.int v1), some (.int v2), some (.int v3), some (.int 4), some (.int r30), some (.int 6), some (.int 0), none]) (q := 172) rfl (Nat.le_of_ble_eq_true rfl) rfl rfl ?_
                    refine y_iconst (x := 0) (q := 173) rfl (by decide) rfl ?_
                    refine y_istore (lo' := [some (.ref 0), some (.int v1), some (.int v2), some (.int v3), some (.int 4), some (.int r30), some (.int 6), some (.int 0), some (.int 0)]) (q := 175) rfl (Nat.le_of_ble_eq_true rfl) rfl rfl ?_
                    refine lz_X7_tells_175 hd v1 v2 v3 4 r30 6  _ (fun v7_41 z42 g43 => ?_) fuel0 0 0 g31 
                    refine y_aload_n (q := 220) rfl rfl rfl ?_
                    refine y_iload (q := 222) rfl rfl rfl ?_
                    refine y_iload_n (q := 223) rfl rfl rfl ?_
                    refine y_iload (q := 225) rfl rfl rfl ?_
                    refine y_callV (I := .invokevirtual 117) (idx := 117) (KD := 1) (J := 135) (mj := mj125) (as := [.ref 0, .int 4, .int v2, .int r30]) (r := []) (q := 228) rfl (fun _ _ _ _ _ _ => rfl) rfl (by decide) rfl rfl rfl rfl rfl (Nat.le_of_ble_eq_true rfl) (d_recv atM0 (by decide) (by decide)) rfl (m_X7_lays (Nat.le_trans (by decide) hd) 4 v2 r30 g43) (fun g44 => ?_)
                    refine y_iload (q := 230) rfl rfl rfl ?_
                    exact y_retI rfl (by decide) rfl rfl
                  · skip
                    refine y_iload_n (q := 145) rfl rfl rfl ?_
                    refine y_iconst (x := 2) (q := 146) rfl (by decide) rfl ?_
                    refine y_ne (q := 154) (q' := 149) rfl rfl (by decide) rfl rfl (fun c45 => ?_) (fun c46 => ?_)
                    · skip
                      refine y_bipush (x := 10) (q := 151) rfl (by decide) rfl ?_
                      refine y_goto (q := 167) rfl rfl ?_
                      refine y_istore (lo' := [some (.ref 0), some (.int v1), some (.int v2), some (.int v3), some (.int 4), some (.int r30), some (.int 10), none, none]) (q := 169) rfl (Nat.le_of_ble_eq_true rfl) rfl rfl ?_
                      refine y_iconst (x := 0) (q := 170) rfl (by decide) rfl ?_
                      refine y_istore (lo' := [some (.ref 0), some (.int v1), some (.int v2), some (.int v3), some (.int 4), some (.int r30), some (.int 10), some (.int 0), none]) (q := 172) rfl (Nat.le_of_ble_eq_true rfl) rfl rfl ?_
                      refine y_iconst (x := 0) (q := 173) rfl (by decide) rfl ?_
                      refine y_istore (lo' := [some (.ref 0), some (.int v1), some (.int v2), some (.int v3), some (.int 4), some (.int r30), some (.int 10), some (.int 0), some (.int 0)]) (q := 175) rfl (Nat.le_of_ble_eq_true rfl) rfl rfl ?_
                      refine lz_X7_tells_175 hd v1 v2 v3 4 r30 10  _ (fun v7_47 z48 g49 => ?_) fuel0 0 0 g31 
                      refine y_aload_n (q := 220) rfl rfl rfl ?_
                      refine y_iload (q := 222) rfl rfl rfl ?_
                      refine y_iload_n (q := 223) rfl rfl rfl ?_
                      refine y_iload (q := 225) rfl rfl rfl ?_
                      refine y_callV (I := .invokevirtual 117) (idx := 117) (KD := 1) (J := 135) (mj := mj125) (as := [.ref 0, .int 4, .int v2, .int r30]) (r := []) (q := 228) rfl (fun _ _ _ _ _ _ => rfl) rfl (by decide) rfl rfl rfl rfl rfl (Nat.le_of_ble_eq_true rfl) (d_recv atM0 (by decide) (by decide)) rfl (m_X7_lays (Nat.le_trans (by decide) hd) 4 v2 r30 g49) (fun g50 => ?_)
                      refine y_iload (q := 230) rfl rfl rfl ?_
                      exact y_retI rfl (by decide) rfl rfl
                    · skip
                      refine y_iload_n (q := 155) rfl rfl rfl ?_
                      refine y_iconst (x := 3) (q := 156) rfl (by decide) rfl ?_
                      refine y_ne (q := 163) (q' := 159) rfl rfl (by decide) rfl rfl (fun c51 => ?_) (fun c52 => ?_)
                      · skip
                        refine y_iconst (x := 4) (q := 160) rfl (by decide) rfl ?_
                        refine y_goto (q := 167) rfl rfl ?_
                        refine y_istore (lo' := [some (.ref 0), some (.int v1), some (.int v2), some (.int v3), some (.int 4), some (.int r30), some (.int 4), none, none]) (q := 169) rfl (Nat.le_of_ble_eq_true rfl) rfl rfl ?_
                        refine y_iconst (x := 0) (q := 170) rfl (by decide) rfl ?_
                        refine y_istore (lo' := [some (.ref 0), some (.int v1), some (.int v2), some (.int v3), some (.int 4), some (.int r30), some (.int 4), some (.int 0), none]) (q := 172) rfl (Nat.le_of_ble_eq_true rfl) rfl rfl ?_
                        refine y_iconst (x := 0) (q := 173) rfl (by decide) rfl ?_
                        refine y_istore (lo' := [some (.ref 0), some (.int v1), some (.int v2), some (.int v3), some (.int 4), some (.int r30), some (.int 4), some (.int 0), some (.int 0)]) (q := 175) rfl (Nat.le_of_ble_eq_true rfl) rfl rfl ?_
                        refine lz_X7_tells_175 hd v1 v2 v3 4 r30 4  _ (fun v7_53 z54 g55 => ?_) fuel0 0 0 g31 
                        refine y_aload_n (q := 220) rfl rfl rfl ?_
                        refine y_iload (q := 222) rfl rfl rfl ?_
                        refine y_iload_n (q := 223) rfl rfl rfl ?_
                        refine y_iload (q := 225) rfl rfl rfl ?_
                        refine y_callV (I := .invokevirtual 117) (idx := 117) (KD := 1) (J := 135) (mj := mj125) (as := [.ref 0, .int 4, .int v2, .int r30]) (r := []) (q := 228) rfl (fun _ _ _ _ _ _ => rfl) rfl (by decide) rfl rfl rfl rfl rfl (Nat.le_of_ble_eq_true rfl) (d_recv atM0 (by decide) (by decide)) rfl (m_X7_lays (Nat.le_trans (by decide) hd) 4 v2 r30 g55) (fun g56 => ?_)
                        refine y_iload (q := 230) rfl rfl rfl ?_
                        exact y_retI rfl (by decide) rfl rfl
                      · skip
                        refine y_aload_n (q := 164) rfl rfl rfl ?_
                        refine y_getI (q := 167) rfl rfl (by decide) atM0 rfl rfl ?_
                        refine y_istore (lo' := [some (.ref 0), some (.int v1), some (.int v2), some (.int v3), some (.int 4), some (.int r30), some (.int (g31 0 3)), none, none]) (q := 169) rfl (Nat.le_of_ble_eq_true rfl) rfl rfl ?_
                        refine y_iconst (x := 0) (q := 170) rfl (by decide) rfl ?_
                        refine y_istore (lo' := [some (.ref 0), some (.int v1), some (.int v2), some (.int v3), some (.int 4), some (.int r30), some (.int (g31 0 3)), some (.int 0), none]) (q := 172) rfl (Nat.le_of_ble_eq_true rfl) rfl rfl ?_
                        refine y_iconst (x := 0) (q := 173) rfl (by decide) rfl ?_
                        refine y_istore (lo' := [some (.ref 0), some (.int v1), some (.int v2), some (.int v3), some (.int 4), some (.int r30), some (.int (g31 0 3)), some (.int 0), some (.int 0)]) (q := 175) rfl (Nat.le_of_ble_eq_true rfl) rfl rfl ?_
                        refine lz_X7_tells_175 hd v1 v2 v3 4 r30 (g31 0 3)  _ (fun v7_57 z58 g59 => ?_) fuel0 0 0 g31 
                        refine y_aload_n (q := 220) rfl rfl rfl ?_
                        refine y_iload (q := 222) rfl rfl rfl ?_
                        refine y_iload_n (q := 223) rfl rfl rfl ?_
                        refine y_iload (q := 225) rfl rfl rfl ?_
                        refine y_callV (I := .invokevirtual 117) (idx := 117) (KD := 1) (J := 135) (mj := mj125) (as := [.ref 0, .int 4, .int v2, .int r30]) (r := []) (q := 228) rfl (fun _ _ _ _ _ _ => rfl) rfl (by decide) rfl rfl rfl rfl rfl (Nat.le_of_ble_eq_true rfl) (d_recv atM0 (by decide) (by decide)) rfl (m_X7_lays (Nat.le_trans (by decide) hd) 4 v2 r30 g59) (fun g60 => ?_)
                        refine y_iload (q := 230) rfl rfl rfl ?_
                        exact y_retI rfl (by decide) rfl rfl
                · skip
                  refine y_iload_n (q := 101) rfl rfl rfl ?_
                  refine y_iconst (x := 4) (q := 102) rfl (by decide) rfl ?_
                  refine y_ne (q := 109) (q' := 105) rfl rfl (by decide) rfl rfl (fun c61 => ?_) (fun c62 => ?_)
                  · skip
                    refine y_iconst (x := 5) (q := 106) rfl (by decide) rfl ?_
                    refine y_goto (q := 110) rfl rfl ?_
                    refine y_istore (lo' := [some (.ref 0), some (.int v1), some (.int v2), some (.int v3), some (.int 5), none, none, none, none]) (q := 112) rfl (Nat.le_of_ble_eq_true rfl) rfl rfl ?_
                    refine y_iload (q := 114) rfl rfl rfl ?_
                    refine y_iconst (x := 5) (q := 115) rfl (by decide) rfl ?_
                    refine y_icmpF (q := 118) rfl (by decide) rfl rfl ?_
                    refine y_aload_n (q := 119) rfl rfl rfl ?_
                    refine y_getI (q := 122) rfl rfl (by decide) atM0 rfl rfl ?_
                    refine y_goto (q := 132) rfl rfl ?_
                    refine y_istore (lo' := [some (.ref 0), some (.int v1), some (.int v2), some (.int v3), some (.int 5), some (.int (h 0 4)), none, none, none]) (q := 134) rfl (Nat.le_of_ble_eq_true rfl) rfl rfl ?_
                    refine y_iload_n (q := 135) rfl rfl rfl ?_
                    refine y_iconst (x := 1) (q := 136) rfl (by decide) rfl ?_
                    refine y_ne (q := 144) (q' := 139) rfl rfl (by decide) rfl rfl (fun c63 => ?_) (fun c64 => ?_)
                    · skip
                      refine y_bipush (x := 6) (q := 141) rfl (by decide) rfl ?_
                      refine y_goto (q := 167) rfl rfl ?_
                      refine y_istore (lo' := [some (.ref 0), some (.int v1), some (.int v2), some (.int v3), some (.int 5), some (.int (h 0 4)), some (.int 6), none, none]) (q := 169) rfl (Nat.le_of_ble_eq_true rfl) rfl rfl ?_
                      refine y_iconst (x := 0) (q := 170) rfl (by decide) rfl ?_
                      refine y_istore (lo' := [some (.ref 0), some (.int v1), some (.int v2), some (.int v3), some (.int 5), some (.int (h 0 4)), some (.int 6), some (.int 0), none]) (q := 172) rfl (Nat.le_of_ble_eq_true rfl) rfl rfl ?_
                      refine y_iconst (x := 0) (q := 173) rfl (by decide) rfl ?_
                      refine y_istore (lo' := [some (.ref 0), some (.int v1), some (.int v2), some (.int v3), some (.int 5), some (.int (h 0 4)), some (.int 6), some (.int 0), some (.int 0)]) (q := 175) rfl (Nat.le_of_ble_eq_true rfl) rfl rfl ?_
                      refine lz_X7_tells_175 hd v1 v2 v3 5 (h 0 4) 6  _ (fun v7_65 z66 g67 => ?_) fuel0 0 0 h 
                      refine y_aload_n (q := 220) rfl rfl rfl ?_
                      refine y_iload (q := 222) rfl rfl rfl ?_
                      refine y_iload_n (q := 223) rfl rfl rfl ?_
                      refine y_iload (q := 225) rfl rfl rfl ?_
                      refine y_callV (I := .invokevirtual 117) (idx := 117) (KD := 1) (J := 135) (mj := mj125) (as := [.ref 0, .int 5, .int v2, .int (h 0 4)]) (r := []) (q := 228) rfl (fun _ _ _ _ _ _ => rfl) rfl (by decide) rfl rfl rfl rfl rfl (Nat.le_of_ble_eq_true rfl) (d_recv atM0 (by decide) (by decide)) rfl (m_X7_lays (Nat.le_trans (by decide) hd) 5 v2 (h 0 4) g67) (fun g68 => ?_)
                      refine y_iload (q := 230) rfl rfl rfl ?_
                      exact y_retI rfl (by decide) rfl rfl
                    · skip
                      refine y_iload_n (q := 145) rfl rfl rfl ?_
                      refine y_iconst (x := 2) (q := 146) rfl (by decide) rfl ?_
                      refine y_ne (q := 154) (q' := 149) rfl rfl (by decide) rfl rfl (fun c69 => ?_) (fun c70 => ?_)
                      · skip
                        refine y_bipush (x := 10) (q := 151) rfl (by decide) rfl ?_
                        refine y_goto (q := 167) rfl rfl ?_
                        refine y_istore (lo' := [some (.ref 0), some (.int v1), some (.int v2), some (.int v3), some (.int 5), some (.int (h 0 4)), some (.int 10), none, none]) (q := 169) rfl (Nat.le_of_ble_eq_true rfl) rfl rfl ?_
                        refine y_iconst (x := 0) (q := 170) rfl (by decide) rfl ?_
                        refine y_istore (lo' := [some (.ref 0), some (.int v1), some (.int v2), some (.int v3), some (.int 5), some (.int (h 0 4)), some (.int 10), some (.int 0), none]) (q := 172) rfl (Nat.le_of_ble_eq_true rfl) rfl rfl ?_
                        refine y_iconst (x := 0) (q := 173) rfl (by decide) rfl ?_
                        refine y_istore (lo' := [some (.ref 0), some (.int v1), some (.int v2), some (.int v3), some (.int 5), some (.int (h 0 4)), some (.int 10), some (.int 0), some (.int 0)]) (q := 175) rfl (Nat.le_of_ble_eq_true rfl) rfl rfl ?_
                        refine lz_X7_tells_175 hd v1 v2 v3 5 (h 0 4) 10  _ (fun v7_71 z72 g73 => ?_) fuel0 0 0 h 
                        refine y_aload_n (q := 220) rfl rfl rfl ?_
                        refine y_iload (q := 222) rfl rfl rfl ?_
                        refine y_iload_n (q := 223) rfl rfl rfl ?_
                        refine y_iload (q := 225) rfl rfl rfl ?_
                        refine y_callV (I := .invokevirtual 117) (idx := 117) (KD := 1) (J := 135) (mj := mj125) (as := [.ref 0, .int 5, .int v2, .int (h 0 4)]) (r := []) (q := 228) rfl (fun _ _ _ _ _ _ => rfl) rfl (by decide) rfl rfl rfl rfl rfl (Nat.le_of_ble_eq_true rfl) (d_recv atM0 (by decide) (by decide)) rfl (m_X7_lays (Nat.le_trans (by decide) hd) 5 v2 (h 0 4) g73) (fun g74 => ?_)
                        refine y_iload (q := 230) rfl rfl rfl ?_
                        exact y_retI rfl (by decide) rfl rfl
                      · skip
                        refine y_iload_n (q := 155) rfl rfl rfl ?_
                        refine y_iconst (x := 3) (q := 156) rfl (by decide) rfl ?_
                        refine y_ne (q := 163) (q' := 159) rfl rfl (by decide) rfl rfl (fun c75 => ?_) (fun c76 => ?_)
                        · skip
                          refine y_iconst (x := 4) (q := 160) rfl (by decide) rfl ?_
                          refine y_goto (q := 167) rfl rfl ?_
                          refine y_istore (lo' := [some (.ref 0), some (.int v1), some (.int v2), some (.int v3), some (.int 5), some (.int (h 0 4)), some (.int 4), none, none]) (q := 169) rfl (Nat.le_of_ble_eq_true rfl) rfl rfl ?_
                          refine y_iconst (x := 0) (q := 170) rfl (by decide) rfl ?_
                          refine y_istore (lo' := [some (.ref 0), some (.int v1), some (.int v2), some (.int v3), some (.int 5), some (.int (h 0 4)), some (.int 4), some (.int 0), none]) (q := 172) rfl (Nat.le_of_ble_eq_true rfl) rfl rfl ?_
                          refine y_iconst (x := 0) (q := 173) rfl (by decide) rfl ?_
                          refine y_istore (lo' := [some (.ref 0), some (.int v1), some (.int v2), some (.int v3), some (.int 5), some (.int (h 0 4)), some (.int 4), some (.int 0), some (.int 0)]) (q := 175) rfl (Nat.le_of_ble_eq_true rfl) rfl rfl ?_
                          refine lz_X7_tells_175 hd v1 v2 v3 5 (h 0 4) 4  _ (fun v7_77 z78 g79 => ?_) fuel0 0 0 h 
                          refine y_aload_n (q := 220) rfl rfl rfl ?_
                          refine y_iload (q := 222) rfl rfl rfl ?_
                          refine y_iload_n (q := 223) rfl rfl rfl ?_
                          refine y_iload (q := 225) rfl rfl rfl ?_
                          refine y_callV (I := .invokevirtual 117) (idx := 117) (KD := 1) (J := 135) (mj := mj125) (as := [.ref 0, .int 5, .int v2, .int (h 0 4)]) (r := []) (q := 228) rfl (fun _ _ _ _ _ _ => rfl) rfl (by decide) rfl rfl rfl rfl rfl (Nat.le_of_ble_eq_true rfl) (d_recv atM0 (by decide) (by decide)) rfl (m_X7_lays (Nat.le_trans (by decide) hd) 5 v2 (h 0 4) g79) (fun g80 => ?_)
                          refine y_iload (q := 230) rfl rfl rfl ?_
                          exact y_retI rfl (by decide) rfl rfl
                        · skip
                          refine y_aload_n (q := 164) rfl rfl rfl ?_
                          refine y_getI (q := 167) rfl rfl (by decide) atM0 rfl rfl ?_
                          refine y_istore (lo' := [some (.ref 0), some (.int v1), some (.int v2), some (.int v3), some (.int 5), some (.int (h 0 4)), some (.int (h 0 3)), none, none]) (q := 169) rfl (Nat.le_of_ble_eq_true rfl) rfl rfl ?_
                          refine y_iconst (x := 0) (q := 170) rfl (by decide) rfl ?_
                          refine y_istore (lo' := [some (.ref 0), some (.int v1), some (.int v2), some (.int v3), some (.int 5), some (.int (h 0 4)), some (.int (h 0 3)), some (.int 0), none]) (q := 172) rfl (Nat.le_of_ble_eq_true rfl) rfl rfl ?_
                          refine y_iconst (x := 0) (q := 173) rfl (by decide) rfl ?_
                          refine y_istore (lo' := [some (.ref 0), some (.int v1), some (.int v2), some (.int v3), some (.int 5), some (.int (h 0 4)), some (.int (h 0 3)), some (.int 0), some (.int 0)]) (q := 175) rfl (Nat.le_of_ble_eq_true rfl) rfl rfl ?_
                          refine lz_X7_tells_175 hd v1 v2 v3 5 (h 0 4) (h 0 3)  _ (fun v7_81 z82 g83 => ?_) fuel0 0 0 h 
                          refine y_aload_n (q := 220) rfl rfl rfl ?_
                          refine y_iload (q := 222) rfl rfl rfl ?_
                          refine y_iload_n (q := 223) rfl rfl rfl ?_
                          refine y_iload (q := 225) rfl rfl rfl ?_
                          refine y_callV (I := .invokevirtual 117) (idx := 117) (KD := 1) (J := 135) (mj := mj125) (as := [.ref 0, .int 5, .int v2, .int (h 0 4)]) (r := []) (q := 228) rfl (fun _ _ _ _ _ _ => rfl) rfl (by decide) rfl rfl rfl rfl rfl (Nat.le_of_ble_eq_true rfl) (d_recv atM0 (by decide) (by decide)) rfl (m_X7_lays (Nat.le_trans (by decide) hd) 5 v2 (h 0 4) g83) (fun g84 => ?_)
                          refine y_iload (q := 230) rfl rfl rfl ?_
                          exact y_retI rfl (by decide) rfl rfl
                  · skip
                    refine y_iload_n (q := 110) rfl rfl rfl ?_
                    refine y_istore (lo' := [some (.ref 0), some (.int v1), some (.int v2), some (.int v3), some (.int v3), none, none, none, none]) (q := 112) rfl (Nat.le_of_ble_eq_true rfl) rfl rfl ?_
                    refine y_iload (q := 114) rfl rfl rfl ?_
                    refine y_iconst (x := 5) (q := 115) rfl (by decide) rfl ?_
                    refine y_ne (q := 125) (q' := 118) rfl rfl (by decide) rfl rfl (fun c85 => ?_) (fun c86 => ?_)
                    · skip
                      refine y_aload_n (q := 119) rfl rfl rfl ?_
                      refine y_getI (q := 122) rfl rfl (by decide) atM0 rfl rfl ?_
                      refine y_goto (q := 132) rfl rfl ?_
                      refine y_istore (lo' := [some (.ref 0), some (.int v1), some (.int v2), some (.int v3), some (.int v3), some (.int (h 0 4)), none, none, none]) (q := 134) rfl (Nat.le_of_ble_eq_true rfl) rfl rfl ?_
                      refine y_iload_n (q := 135) rfl rfl rfl ?_
                      refine y_iconst (x := 1) (q := 136) rfl (by decide) rfl ?_
                      refine y_ne (q := 144) (q' := 139) rfl rfl (by decide) rfl rfl (fun c87 => ?_) (fun c88 => ?_)
                      · skip
                        refine y_bipush (x := 6) (q := 141) rfl (by decide) rfl ?_
                        refine y_goto (q := 167) rfl rfl ?_
                        refine y_istore (lo' := [some (.ref 0), some (.int v1), some (.int v2), some (.int v3), some (.int v3), some (.int (h 0 4)), some (.int 6), none, none]) (q := 169) rfl (Nat.le_of_ble_eq_true rfl) rfl rfl ?_
                        refine y_iconst (x := 0) (q := 170) rfl (by decide) rfl ?_
                        refine y_istore (lo' := [some (.ref 0), some (.int v1), some (.int v2), some (.int v3), some (.int v3), some (.int (h 0 4)), some (.int 6), some (.int 0), none]) (q := 172) rfl (Nat.le_of_ble_eq_true rfl) rfl rfl ?_
                        refine y_iconst (x := 0) (q := 173) rfl (by decide) rfl ?_
                        refine y_istore (lo' := [some (.ref 0), some (.int v1), some (.int v2), some (.int v3), some (.int v3), some (.int (h 0 4)), some (.int 6), some (.int 0), some (.int 0)]) (q := 175) rfl (Nat.le_of_ble_eq_true rfl) rfl rfl ?_
                        refine lz_X7_tells_175 hd v1 v2 v3 v3 (h 0 4) 6  _ (fun v7_89 z90 g91 => ?_) fuel0 0 0 h 
                        refine y_aload_n (q := 220) rfl rfl rfl ?_
                        refine y_iload (q := 222) rfl rfl rfl ?_
                        refine y_iload_n (q := 223) rfl rfl rfl ?_
                        refine y_iload (q := 225) rfl rfl rfl ?_
                        refine y_callV (I := .invokevirtual 117) (idx := 117) (KD := 1) (J := 135) (mj := mj125) (as := [.ref 0, .int v3, .int v2, .int (h 0 4)]) (r := []) (q := 228) rfl (fun _ _ _ _ _ _ => rfl) rfl (by decide) rfl rfl rfl rfl rfl (Nat.le_of_ble_eq_true rfl) (d_recv atM0 (by decide) (by decide)) rfl (m_X7_lays (Nat.le_trans (by decide) hd) v3 v2 (h 0 4) g91) (fun g92 => ?_)
                        refine y_iload (q := 230) rfl rfl rfl ?_
                        exact y_retI rfl (by decide) rfl rfl
                      · skip
                        refine y_iload_n (q := 145) rfl rfl rfl ?_
                        refine y_iconst (x := 2) (q := 146) rfl (by decide) rfl ?_
                        refine y_ne (q := 154) (q' := 149) rfl rfl (by decide) rfl rfl (fun c93 => ?_) (fun c94 => ?_)
                        · skip
                          refine y_bipush (x := 10) (q := 151) rfl (by decide) rfl ?_
                          refine y_goto (q := 167) rfl rfl ?_
                          refine y_istore (lo' := [some (.ref 0), some (.int v1), some (.int v2), some (.int v3), some (.int v3), some (.int (h 0 4)), some (.int 10), none, none]) (q := 169) rfl (Nat.le_of_ble_eq_true rfl) rfl rfl ?_
                          refine y_iconst (x := 0) (q := 170) rfl (by decide) rfl ?_
                          refine y_istore (lo' := [some (.ref 0), some (.int v1), some (.int v2), some (.int v3), some (.int v3), some (.int (h 0 4)), some (.int 10), some (.int 0), none]) (q := 172) rfl (Nat.le_of_ble_eq_true rfl) rfl rfl ?_
                          refine y_iconst (x := 0) (q := 173) rfl (by decide) rfl ?_
                          refine y_istore (lo' := [some (.ref 0), some (.int v1), some (.int v2), some (.int v3), some (.int v3), some (.int (h 0 4)), some (.int 10), some (.int 0), some (.int 0)]) (q := 175) rfl (Nat.le_of_ble_eq_true rfl) rfl rfl ?_
                          refine lz_X7_tells_175 hd v1 v2 v3 v3 (h 0 4) 10  _ (fun v7_95 z96 g97 => ?_) fuel0 0 0 h 
                          refine y_aload_n (q := 220) rfl rfl rfl ?_
                          refine y_iload (q := 222) rfl rfl rfl ?_
                          refine y_iload_n (q := 223) rfl rfl rfl ?_
                          refine y_iload (q := 225) rfl rfl rfl ?_
                          refine y_callV (I := .invokevirtual 117) (idx := 117) (KD := 1) (J := 135) (mj := mj125) (as := [.ref 0, .int v3, .int v2, .int (h 0 4)]) (r := []) (q := 228) rfl (fun _ _ _ _ _ _ => rfl) rfl (by decide) rfl rfl rfl rfl rfl (Nat.le_of_ble_eq_true rfl) (d_recv atM0 (by decide) (by decide)) rfl (m_X7_lays (Nat.le_trans (by decide) hd) v3 v2 (h 0 4) g97) (fun g98 => ?_)
                          refine y_iload (q := 230) rfl rfl rfl ?_
                          exact y_retI rfl (by decide) rfl rfl
                        · skip
                          refine y_iload_n (q := 155) rfl rfl rfl ?_
                          refine y_iconst (x := 3) (q := 156) rfl (by decide) rfl ?_
                          refine y_ne (q := 163) (q' := 159) rfl rfl (by decide) rfl rfl (fun c99 => ?_) (fun c100 => ?_)
                          · skip
                            refine y_iconst (x := 4) (q := 160) rfl (by decide) rfl ?_
                            refine y_goto (q := 167) rfl rfl ?_
                            refine y_istore (lo' := [some (.ref 0), some (.int v1), some (.int v2), some (.int v3), some (.int v3), some (.int (h 0 4)), some (.int 4), none, none]) (q := 169) rfl (Nat.le_of_ble_eq_true rfl) rfl rfl ?_
                            refine y_iconst (x := 0) (q := 170) rfl (by decide) rfl ?_
                            refine y_istore (lo' := [some (.ref 0), some (.int v1), some (.int v2), some (.int v3), some (.int v3), some (.int (h 0 4)), some (.int 4), some (.int 0), none]) (q := 172) rfl (Nat.le_of_ble_eq_true rfl) rfl rfl ?_
                            refine y_iconst (x := 0) (q := 173) rfl (by decide) rfl ?_
                            refine y_istore (lo' := [some (.ref 0), some (.int v1), some (.int v2), some (.int v3), some (.int v3), some (.int (h 0 4)), some (.int 4), some (.int 0), some (.int 0)]) (q := 175) rfl (Nat.le_of_ble_eq_true rfl) rfl rfl ?_
                            refine lz_X7_tells_175 hd v1 v2 v3 v3 (h 0 4) 4  _ (fun v7_101 z102 g103 => ?_) fuel0 0 0 h 
                            refine y_aload_n (q := 220) rfl rfl rfl ?_
                            refine y_iload (q := 222) rfl rfl rfl ?_
                            refine y_iload_n (q := 223) rfl rfl rfl ?_
                            refine y_iload (q := 225) rfl rfl rfl ?_
                            refine y_callV (I := .invokevirtual 117) (idx := 117) (KD := 1) (J := 135) (mj := mj125) (as := [.ref 0, .int v3, .int v2, .int (h 0 4)]) (r := []) (q := 228) rfl (fun _ _ _ _ _ _ => rfl) rfl (by decide) rfl rfl rfl rfl rfl (Nat.le_of_ble_eq_true rfl) (d_recv atM0 (by decide) (by decide)) rfl (m_X7_lays (Nat.le_trans (by decide) hd) v3 v2 (h 0 4) g103) (fun g104 => ?_)
                            refine y_iload (q := 230) rfl rfl rfl ?_
                            exact y_retI rfl (by decide) rfl rfl
                          · skip
                            refine y_aload_n (q := 164) rfl rfl rfl ?_
                            refine y_getI (q := 167) rfl rfl (by decide) atM0 rfl rfl ?_
                            refine y_istore (lo' := [some (.ref 0), some (.int v1), some (.int v2), some (.int v3), some (.int v3), some (.int (h 0 4)), some (.int (h 0 3)), none, none]) (q := 169) rfl (Nat.le_of_ble_eq_true rfl) rfl rfl ?_
                            refine y_iconst (x := 0) (q := 170) rfl (by decide) rfl ?_
                            refine y_istore (lo' := [some (.ref 0), some (.int v1), some (.int v2), some (.int v3), some (.int v3), some (.int (h 0 4)), some (.int (h 0 3)), some (.int 0), none]) (q := 172) rfl (Nat.le_of_ble_eq_true rfl) rfl rfl ?_
                            refine y_iconst (x := 0) (q := 173) rfl (by decide) rfl ?_
                            refine y_istore (lo' := [some (.ref 0), some (.int v1), some (.int v2), some (.int v3), some (.int v3), some (.int (h 0 4)), some (.int (h 0 3)), some (.int 0), some (.int 0)]) (q := 175) rfl (Nat.le_of_ble_eq_true rfl) rfl rfl ?_
                            refine lz_X7_tells_175 hd v1 v2 v3 v3 (h 0 4) (h 0 3)  _ (fun v7_105 z106 g107 => ?_) fuel0 0 0 h 
                            refine y_aload_n (q := 220) rfl rfl rfl ?_
                            refine y_iload (q := 222) rfl rfl rfl ?_
                            refine y_iload_n (q := 223) rfl rfl rfl ?_
                            refine y_iload (q := 225) rfl rfl rfl ?_
                            refine y_callV (I := .invokevirtual 117) (idx := 117) (KD := 1) (J := 135) (mj := mj125) (as := [.ref 0, .int v3, .int v2, .int (h 0 4)]) (r := []) (q := 228) rfl (fun _ _ _ _ _ _ => rfl) rfl (by decide) rfl rfl rfl rfl rfl (Nat.le_of_ble_eq_true rfl) (d_recv atM0 (by decide) (by decide)) rfl (m_X7_lays (Nat.le_trans (by decide) hd) v3 v2 (h 0 4) g107) (fun g108 => ?_)
                            refine y_iload (q := 230) rfl rfl rfl ?_
                            exact y_retI rfl (by decide) rfl rfl
                    · skip
                      refine y_aload_n (q := 126) rfl rfl rfl ?_
                      refine y_iload_n (q := 127) rfl rfl rfl ?_
                      refine y_iload (q := 129) rfl rfl rfl ?_
                      refine y_callI (I := .invokevirtual 113) (idx := 113) (KD := 1) (J := 141) (mj := mj131) (as := [.ref 0, .int v2, .int v3]) (r := []) (q := 132) rfl (fun _ _ _ _ _ _ => rfl) rfl (by decide) rfl rfl rfl rfl rfl (Nat.le_of_ble_eq_true rfl) (d_recv atM0 (by decide) (by decide)) rfl (m_X7_told (Nat.le_trans (by decide) hd) v2 v3 h) (fun r109 g110 => ?_)
                      refine y_istore (lo' := [some (.ref 0), some (.int v1), some (.int v2), some (.int v3), some (.int v3), some (.int r109), none, none, none]) (q := 134) rfl (Nat.le_of_ble_eq_true rfl) rfl rfl ?_
                      refine y_iload_n (q := 135) rfl rfl rfl ?_
                      refine y_iconst (x := 1) (q := 136) rfl (by decide) rfl ?_
                      refine y_ne (q := 144) (q' := 139) rfl rfl (by decide) rfl rfl (fun c111 => ?_) (fun c112 => ?_)
                      · skip
                        refine y_bipush (x := 6) (q := 141) rfl (by decide) rfl ?_
                        refine y_goto (q := 167) rfl rfl ?_
                        refine y_istore (lo' := [some (.ref 0), some (.int v1), some (.int v2), some (.int v3), some (.int v3), some (.int r109), some (.int 6), none, none]) (q := 169) rfl (Nat.le_of_ble_eq_true rfl) rfl rfl ?_
                        refine y_iconst (x := 0) (q := 170) rfl (by decide) rfl ?_
                        refine y_istore (lo' := [some (.ref 0), some (.int v1), some (.int v2), some (.int v3), some (.int v3), some (.int r109), some (.int 6), some (.int 0), none]) (q := 172) rfl (Nat.le_of_ble_eq_true rfl) rfl rfl ?_
                        refine y_iconst (x := 0) (q := 173) rfl (by decide) rfl ?_
                        refine y_istore (lo' := [some (.ref 0), some (.int v1), some (.int v2), some (.int v3), some (.int v3), some (.int r109), some (.int 6), some (.int 0), some (.int 0)]) (q := 175) rfl (Nat.le_of_ble_eq_true rfl) rfl rfl ?_
                        refine lz_X7_tells_175 hd v1 v2 v3 v3 r109 6  _ (fun v7_113 z114 g115 => ?_) fuel0 0 0 g110 
                        refine y_aload_n (q := 220) rfl rfl rfl ?_
                        refine y_iload (q := 222) rfl rfl rfl ?_
                        refine y_iload_n (q := 223) rfl rfl rfl ?_
                        refine y_iload (q := 225) rfl rfl rfl ?_
                        refine y_callV (I := .invokevirtual 117) (idx := 117) (KD := 1) (J := 135) (mj := mj125) (as := [.ref 0, .int v3, .int v2, .int r109]) (r := []) (q := 228) rfl (fun _ _ _ _ _ _ => rfl) rfl (by decide) rfl rfl rfl rfl rfl (Nat.le_of_ble_eq_true rfl) (d_recv atM0 (by decide) (by decide)) rfl (m_X7_lays (Nat.le_trans (by decide) hd) v3 v2 r109 g115) (fun g116 => ?_)
                        refine y_iload (q := 230) rfl rfl rfl ?_
                        exact y_retI rfl (by decide) rfl rfl
                      · skip
                        refine y_iload_n (q := 145) rfl rfl rfl ?_
                        refine y_iconst (x := 2) (q := 146) rfl (by decide) rfl ?_
                        refine y_ne (q := 154) (q' := 149) rfl rfl (by decide) rfl rfl (fun c117 => ?_) (fun c118 => ?_)
                        · skip
                          refine y_bipush (x := 10) (q := 151) rfl (by decide) rfl ?_
                          refine y_goto (q := 167) rfl rfl ?_
                          refine y_istore (lo' := [some (.ref 0), some (.int v1), some (.int v2), some (.int v3), some (.int v3), some (.int r109), some (.int 10), none, none]) (q := 169) rfl (Nat.le_of_ble_eq_true rfl) rfl rfl ?_
                          refine y_iconst (x := 0) (q := 170) rfl (by decide) rfl ?_
                          refine y_istore (lo' := [some (.ref 0), some (.int v1), some (.int v2), some (.int v3), some (.int v3), some (.int r109), some (.int 10), some (.int 0), none]) (q := 172) rfl (Nat.le_of_ble_eq_true rfl) rfl rfl ?_
                          refine y_iconst (x := 0) (q := 173) rfl (by decide) rfl ?_
                          refine y_istore (lo' := [some (.ref 0), some (.int v1), some (.int v2), some (.int v3), some (.int v3), some (.int r109), some (.int 10), some (.int 0), some (.int 0)]) (q := 175) rfl (Nat.le_of_ble_eq_true rfl) rfl rfl ?_
                          refine lz_X7_tells_175 hd v1 v2 v3 v3 r109 10  _ (fun v7_119 z120 g121 => ?_) fuel0 0 0 g110 
                          refine y_aload_n (q := 220) rfl rfl rfl ?_
                          refine y_iload (q := 222) rfl rfl rfl ?_
                          refine y_iload_n (q := 223) rfl rfl rfl ?_
                          refine y_iload (q := 225) rfl rfl rfl ?_
                          refine y_callV (I := .invokevirtual 117) (idx := 117) (KD := 1) (J := 135) (mj := mj125) (as := [.ref 0, .int v3, .int v2, .int r109]) (r := []) (q := 228) rfl (fun _ _ _ _ _ _ => rfl) rfl (by decide) rfl rfl rfl rfl rfl (Nat.le_of_ble_eq_true rfl) (d_recv atM0 (by decide) (by decide)) rfl (m_X7_lays (Nat.le_trans (by decide) hd) v3 v2 r109 g121) (fun g122 => ?_)
                          refine y_iload (q := 230) rfl rfl rfl ?_
                          exact y_retI rfl (by decide) rfl rfl
                        · skip
                          refine y_iload_n (q := 155) rfl rfl rfl ?_
                          refine y_iconst (x := 3) (q := 156) rfl (by decide) rfl ?_
                          refine y_ne (q := 163) (q' := 159) rfl rfl (by decide) rfl rfl (fun c123 => ?_) (fun c124 => ?_)
                          · skip
                            refine y_iconst (x := 4) (q := 160) rfl (by decide) rfl ?_
                            refine y_goto (q := 167) rfl rfl ?_
                            refine y_istore (lo' := [some (.ref 0), some (.int v1), some (.int v2), some (.int v3), some (.int v3), some (.int r109), some (.int 4), none, none]) (q := 169) rfl (Nat.le_of_ble_eq_true rfl) rfl rfl ?_
                            refine y_iconst (x := 0) (q := 170) rfl (by decide) rfl ?_
                            refine y_istore (lo' := [some (.ref 0), some (.int v1), some (.int v2), some (.int v3), some (.int v3), some (.int r109), some (.int 4), some (.int 0), none]) (q := 172) rfl (Nat.le_of_ble_eq_true rfl) rfl rfl ?_
                            refine y_iconst (x := 0) (q := 173) rfl (by decide) rfl ?_
                            refine y_istore (lo' := [some (.ref 0), some (.int v1), some (.int v2), some (.int v3), some (.int v3), some (.int r109), some (.int 4), some (.int 0), some (.int 0)]) (q := 175) rfl (Nat.le_of_ble_eq_true rfl) rfl rfl ?_
                            refine lz_X7_tells_175 hd v1 v2 v3 v3 r109 4  _ (fun v7_125 z126 g127 => ?_) fuel0 0 0 g110 
                            refine y_aload_n (q := 220) rfl rfl rfl ?_
                            refine y_iload (q := 222) rfl rfl rfl ?_
                            refine y_iload_n (q := 223) rfl rfl rfl ?_
                            refine y_iload (q := 225) rfl rfl rfl ?_
                            refine y_callV (I := .invokevirtual 117) (idx := 117) (KD := 1) (J := 135) (mj := mj125) (as := [.ref 0, .int v3, .int v2, .int r109]) (r := []) (q := 228) rfl (fun _ _ _ _ _ _ => rfl) rfl (by decide) rfl rfl rfl rfl rfl (Nat.le_of_ble_eq_true rfl) (d_recv atM0 (by decide) (by decide)) rfl (m_X7_lays (Nat.le_trans (by decide) hd) v3 v2 r109 g127) (fun g128 => ?_)
                            refine y_iload (q := 230) rfl rfl rfl ?_
                            exact y_retI rfl (by decide) rfl rfl
                          · skip
                            refine y_aload_n (q := 164) rfl rfl rfl ?_
                            refine y_getI (q := 167) rfl rfl (by decide) atM0 rfl rfl ?_
                            refine y_istore (lo' := [some (.ref 0), some (.int v1), some (.int v2), some (.int v3), some (.int v3), some (.int r109), some (.int (g110 0 3)), none, none]) (q := 169) rfl (Nat.le_of_ble_eq_true rfl) rfl rfl ?_
                            refine y_iconst (x := 0) (q := 170) rfl (by decide) rfl ?_
                            refine y_istore (lo' := [some (.ref 0), some (.int v1), some (.int v2), some (.int v3), some (.int v3), some (.int r109), some (.int (g110 0 3)), some (.int 0), none]) (q := 172) rfl (Nat.le_of_ble_eq_true rfl) rfl rfl ?_
                            refine y_iconst (x := 0) (q := 173) rfl (by decide) rfl ?_
                            refine y_istore (lo' := [some (.ref 0), some (.int v1), some (.int v2), some (.int v3), some (.int v3), some (.int r109), some (.int (g110 0 3)), some (.int 0), some (.int 0)]) (q := 175) rfl (Nat.le_of_ble_eq_true rfl) rfl rfl ?_
                            refine lz_X7_tells_175 hd v1 v2 v3 v3 r109 (g110 0 3)  _ (fun v7_129 z130 g131 => ?_) fuel0 0 0 g110 
                            refine y_aload_n (q := 220) rfl rfl rfl ?_
                            refine y_iload (q := 222) rfl rfl rfl ?_
                            refine y_iload_n (q := 223) rfl rfl rfl ?_
                            refine y_iload (q := 225) rfl rfl rfl ?_
                            refine y_callV (I := .invokevirtual 117) (idx := 117) (KD := 1) (J := 135) (mj := mj125) (as := [.ref 0, .int v3, .int v2, .int r109]) (r := []) (q := 228) rfl (fun _ _ _ _ _ _ => rfl) rfl (by decide) rfl rfl rfl rfl rfl (Nat.le_of_ble_eq_true rfl) (d_recv atM0 (by decide) (by decide)) rfl (m_X7_lays (Nat.le_trans (by decide) hd) v3 v2 r109 g131) (fun g132 => ?_)
                            refine y_iload (q := 230) rfl rfl rfl ?_
                            exact y_retI rfl (by decide) rfl rfl
          · skip
            refine y_bipush (x := (-2)) (q := 57) rfl (by decide) rfl ?_
            exact y_retI rfl (by decide) rfl rfl
end
end

section
/-! X7_sheet, X7_film, X7_friendsBy, X7_drawn, X7_chance, X7_image, X7_back, X7_count, X7_cell, X7_copy, X7_houses, X7_over (by program) -/
noncomputable section
def l_X7_sheet_77 (v1 : Int32) (v2 : Int32) (v3 : Int32) (k : dH → Option (Int32 × dH)) : Nat → Int32 → dH → Option (Int32 × dH)
  | 0, _, _ => none
  | n + 1, v4, h => if v4.toInt < v3.toInt then (if v2.toInt < 0 then (k  h) else (if 0 ≤ ((40 * v1) + v4).toInt ∧ ((40 * v1) + v4).toInt < 160 then (oH (dU h 17 (((40 * v1) + v4).toInt.toNat) 0) (fun g23 => l_X7_sheet_77 v1 v2 v3 k n (v4 + 1) g23)) else none)) else (k  h)
theorem lz_X7_sheet_77 {d : Nat} (hd : 2 ≤ d) (v1 : Int32) (v2 : Int32) (v3 : Int32) (k : dH → Option (Int32 × dH)) (hk : ∀ (w4 : Int32) (h : dH), dY shM d mj227 dI (k h) 106 [some (.ref 0), some (.int v1), some (.int v2), some (.int v3), some (.int w4)] [] h) : ∀ (n : Nat) (v4 : Int32) (h : dH), dY shM d mj227 dI (l_X7_sheet_77 v1 v2 v3 k n v4 h) 77 [some (.ref 0), some (.int v1), some (.int v2), some (.int v3), some (.int v4)] [] h
  | 0, _, _ => dY_none
  | n + 1, v4, h => by
    rw [l_X7_sheet_77]
    refine y_iload (q := 79) rfl rfl rfl ?_
    refine y_iload_n (q := 80) rfl rfl rfl ?_
    refine y_ge (q := 106) (q' := 83) rfl rfl rfl rfl rfl (fun c19 => ?_) (fun c20 => ?_)
    · skip
      refine y_iload_n (q := 84) rfl rfl rfl ?_
      refine y_lt0 (q := 106) (q' := 87) rfl rfl rfl rfl (fun c21 => ?_) (fun c22 => ?_)
      · skip
        exact hk  v4 h
      · skip
        refine y_aload_n (q := 88) rfl rfl rfl ?_
        refine y_getR (b := 17) (q := 91) rfl rfl (by decide) atM0 rfl rfl ?_
        refine y_bipush (x := 40) (q := 93) rfl (by decide) rfl ?_
        refine y_iload_n (q := 94) rfl rfl rfl ?_
        refine y_imul (q := 95) rfl rfl ?_
        refine y_iload (q := 97) rfl rfl rfl ?_
        refine y_iadd (q := 98) rfl rfl ?_
        refine y_iconst (x := 0) (q := 99) rfl (by decide) rfl ?_
        refine y_guard (fun c24 => ?_)
        refine y_iast (n := 160) (N := 160) (X := ((40 * v1) + v4).toInt) (K := ((40 * v1) + v4).toInt.toNat) (q := 100) rfl atM17 rfl rfl c24 rfl rfl (fun g23 => ?_)
        refine y_iinc (z := (v4 + 1)) (lo' := [some (.ref 0), some (.int v1), some (.int v2), some (.int v3), some (.int (v4 + 1))]) (q := 103) rfl rfl (Nat.le_of_ble_eq_true rfl) (by rw [oi_1]) rfl rfl ?_
        refine y_goto (q := 77) rfl rfl ?_
        exact lz_X7_sheet_77 hd v1 v2 v3 k hk n (v4 + 1) g23 
    · skip
      exact hk  v4 h
def f_X7_sheet (v1 : Int32) (v2 : Int32) (v3 : Int32) (h : dH) : Option (Int32 × dH) := oP (f_X7_isSheet v1) (fun r1 => if r1.toInt = 0 then (some ((-2), h)) else (oP (f_X7_in (v2.toInt64) (-1) 2) (fun r4 => if r4.toInt = 0 then (some ((-2), h)) else (if v2.toInt < 0 then (if v2.toInt < 0 then (if v2.toInt < 0 then (if 0 ≤ v1.toInt ∧ v1.toInt < 4 then (oH (dU h 14 (v1.toInt.toNat) (vp_nar .boolean 0)) (fun g13 => if 0 ≤ v1.toInt ∧ v1.toInt < 4 then (oH (dU g13 15 (v1.toInt.toNat) v2) (fun g15 => if 0 ≤ v1.toInt ∧ v1.toInt < 4 then (oH (dU g15 16 (v1.toInt.toNat) v3) (fun g17 => l_X7_sheet_77 v1 v2 v3  (fun g26 => some (1, g26)) fuel0 0 g17)) else none)) else none)) else none) else (if 0 ≤ v1.toInt ∧ v1.toInt < 4 then (oH (dU h 14 (v1.toInt.toNat) (vp_nar .boolean 1)) (fun g27 => if 0 ≤ v1.toInt ∧ v1.toInt < 4 then (oH (dU g27 15 (v1.toInt.toNat) v2) (fun g29 => if 0 ≤ v1.toInt ∧ v1.toInt < 4 then (oH (dU g29 16 (v1.toInt.toNat) v3) (fun g31 => l_X7_sheet_77 v1 v2 v3  (fun g34 => some (1, g34)) fuel0 0 g31)) else none)) else none)) else none)) else (if v3.toInt < 0 then (some ((-14), h)) else (if v2.toInt < 0 then (if 0 ≤ v1.toInt ∧ v1.toInt < 4 then (oH (dU h 14 (v1.toInt.toNat) (vp_nar .boolean 0)) (fun g39 => if 0 ≤ v1.toInt ∧ v1.toInt < 4 then (oH (dU g39 15 (v1.toInt.toNat) v2) (fun g41 => if 0 ≤ v1.toInt ∧ v1.toInt < 4 then (oH (dU g41 16 (v1.toInt.toNat) v3) (fun g43 => l_X7_sheet_77 v1 v2 v3  (fun g46 => some (1, g46)) fuel0 0 g43)) else none)) else none)) else none) else (if 0 ≤ v1.toInt ∧ v1.toInt < 4 then (oH (dU h 14 (v1.toInt.toNat) (vp_nar .boolean 1)) (fun g47 => if 0 ≤ v1.toInt ∧ v1.toInt < 4 then (oH (dU g47 15 (v1.toInt.toNat) v2) (fun g49 => if 0 ≤ v1.toInt ∧ v1.toInt < 4 then (oH (dU g49 16 (v1.toInt.toNat) v3) (fun g51 => l_X7_sheet_77 v1 v2 v3  (fun g54 => some (1, g54)) fuel0 0 g51)) else none)) else none)) else none)))) else (if 40 < v3.toInt then (some ((-2), h)) else (if v2.toInt < 0 then (if v2.toInt < 0 then (if 0 ≤ v1.toInt ∧ v1.toInt < 4 then (oH (dU h 14 (v1.toInt.toNat) (vp_nar .boolean 0)) (fun g61 => if 0 ≤ v1.toInt ∧ v1.toInt < 4 then (oH (dU g61 15 (v1.toInt.toNat) v2) (fun g63 => if 0 ≤ v1.toInt ∧ v1.toInt < 4 then (oH (dU g63 16 (v1.toInt.toNat) v3) (fun g65 => l_X7_sheet_77 v1 v2 v3  (fun g68 => some (1, g68)) fuel0 0 g65)) else none)) else none)) else none) else (if 0 ≤ v1.toInt ∧ v1.toInt < 4 then (oH (dU h 14 (v1.toInt.toNat) (vp_nar .boolean 1)) (fun g69 => if 0 ≤ v1.toInt ∧ v1.toInt < 4 then (oH (dU g69 15 (v1.toInt.toNat) v2) (fun g71 => if 0 ≤ v1.toInt ∧ v1.toInt < 4 then (oH (dU g71 16 (v1.toInt.toNat) v3) (fun g73 => l_X7_sheet_77 v1 v2 v3  (fun g76 => some (1, g76)) fuel0 0 g73)) else none)) else none)) else none)) else (if v3.toInt < 0 then (some ((-14), h)) else (if v2.toInt < 0 then (if 0 ≤ v1.toInt ∧ v1.toInt < 4 then (oH (dU h 14 (v1.toInt.toNat) (vp_nar .boolean 0)) (fun g81 => if 0 ≤ v1.toInt ∧ v1.toInt < 4 then (oH (dU g81 15 (v1.toInt.toNat) v2) (fun g83 => if 0 ≤ v1.toInt ∧ v1.toInt < 4 then (oH (dU g83 16 (v1.toInt.toNat) v3) (fun g85 => l_X7_sheet_77 v1 v2 v3  (fun g88 => some (1, g88)) fuel0 0 g85)) else none)) else none)) else none) else (if 0 ≤ v1.toInt ∧ v1.toInt < 4 then (oH (dU h 14 (v1.toInt.toNat) (vp_nar .boolean 1)) (fun g89 => if 0 ≤ v1.toInt ∧ v1.toInt < 4 then (oH (dU g89 15 (v1.toInt.toNat) v2) (fun g91 => if 0 ≤ v1.toInt ∧ v1.toInt < 4 then (oH (dU g91 16 (v1.toInt.toNat) v3) (fun g93 => l_X7_sheet_77 v1 v2 v3  (fun g96 => some (1, g96)) fuel0 0 g93)) else none)) else none)) else none)))))))))
theorem m_X7_sheet {d : Nat} (hd : 3 ≤ d) (v1 : Int32) (v2 : Int32) (v3 : Int32) (h : dH) : dX shM d 227 [.ref 0, .int v1, .int v2, .int v3] dI (f_X7_sheet v1 v2 v3 h) h := by
  obtain ⟨e, rfl⟩ : ∃ e, d = e + 1 := ⟨d - 1, by omega⟩
  have hd : 2 ≤ e := by omega
  refine dX_of (mj := mj227) (lo := [some (.ref 0), some (.int v1), some (.int v2), some (.int v3), none]) rfl (Nat.le_of_ble_eq_true rfl) rfl ?_
  unfold f_X7_sheet
  refine y_iload_n (q := 1) rfl rfl rfl ?_
  refine y_callP (I := .invokestatic 436) (idx := 436) (KD := 0) (J := 236) (mj := mj226) (as := [.int v1]) (r := []) (q := 4) rfl (fun _ _ _ _ _ _ => rfl) rfl (by decide) rfl rfl rfl rfl rfl (Nat.le_of_ble_eq_true rfl) rfl rfl (m_X7_isSheet (Nat.le_trans (by decide) hd) v1 h) (fun r1 => ?_)
  refine y_eq0 (q := 31) (q' := 7) rfl rfl rfl rfl (fun c2 => ?_) (fun c3 => ?_)
  · skip
    refine y_bipush (x := (-2)) (q := 33) rfl (by decide) rfl ?_
    exact y_retI rfl (by decide) rfl rfl
  · skip
    refine y_iload_n (q := 8) rfl rfl rfl ?_
    refine y_i2l (q := 9) rfl rfl ?_
    refine y_ldc2_w (u := (-1)) (q := 12) rfl rfl rfl ?_
    refine y_ldc2_w (u := 2) (q := 15) rfl rfl rfl ?_
    refine y_callP (I := .invokestatic 91) (idx := 91) (KD := 0) (J := 128) (mj := mj118) (as := [.long v2.toInt64, .long (-1), .long 2]) (r := []) (q := 18) rfl (fun _ _ _ _ _ _ => rfl) rfl (by decide) rfl rfl rfl rfl rfl (Nat.le_of_ble_eq_true rfl) rfl rfl (m_X7_in (Nat.le_trans (by decide) hd) (v2.toInt64) (-1) 2 h) (fun r4 => ?_)
    refine y_eq0 (q := 31) (q' := 21) rfl rfl rfl rfl (fun c5 => ?_) (fun c6 => ?_)
    · skip
      refine y_bipush (x := (-2)) (q := 33) rfl (by decide) rfl ?_
      exact y_retI rfl (by decide) rfl rfl
    · skip
      refine y_iload_n (q := 22) rfl rfl rfl ?_
      refine y_lt0 (q := 34) (q' := 25) rfl rfl rfl rfl (fun c7 => ?_) (fun c8 => ?_)
      · skip
        refine y_iload_n (q := 35) rfl rfl rfl ?_
        refine y_lt0 (q := 45) (q' := 38) rfl rfl rfl rfl (fun c9 => ?_) (fun c10 => ?_)
        · skip
          refine y_aload_n (q := 46) rfl rfl rfl ?_
          refine y_getR (b := 14) (q := 49) rfl rfl (by decide) atM0 rfl rfl ?_
          refine y_iload_n (q := 50) rfl rfl rfl ?_
          refine y_iload_n (q := 51) rfl rfl rfl ?_
          refine y_lt0 (q := 58) (q' := 54) rfl rfl rfl rfl (fun c11 => ?_) (fun c12 => ?_)
          · skip
            refine y_iconst (x := 0) (q := 59) rfl (by decide) rfl ?_
            refine y_guard (fun c14 => ?_)
            refine y_bast (n := 4) (N := 4) (X := v1.toInt) (K := v1.toInt.toNat) (q := 60) rfl atM14 rfl rfl c14 rfl rfl (fun g13 => ?_)
            refine y_aload_n (q := 61) rfl rfl rfl ?_
            refine y_getR (b := 15) (q := 64) rfl rfl (by decide) atM0 rfl rfl ?_
            refine y_iload_n (q := 65) rfl rfl rfl ?_
            refine y_iload_n (q := 66) rfl rfl rfl ?_
            refine y_guard (fun c16 => ?_)
            refine y_iast (n := 4) (N := 4) (X := v1.toInt) (K := v1.toInt.toNat) (q := 67) rfl atM15 rfl rfl c16 rfl rfl (fun g15 => ?_)
            refine y_aload_n (q := 68) rfl rfl rfl ?_
            refine y_getR (b := 16) (q := 71) rfl rfl (by decide) atM0 rfl rfl ?_
            refine y_iload_n (q := 72) rfl rfl rfl ?_
            refine y_iload_n (q := 73) rfl rfl rfl ?_
            refine y_guard (fun c18 => ?_)
            refine y_iast (n := 4) (N := 4) (X := v1.toInt) (K := v1.toInt.toNat) (q := 74) rfl atM16 rfl rfl c18 rfl rfl (fun g17 => ?_)
            refine y_iconst (x := 0) (q := 75) rfl (by decide) rfl ?_
            refine y_istore (lo' := [some (.ref 0), some (.int v1), some (.int v2), some (.int v3), some (.int 0)]) (q := 77) rfl (Nat.le_of_ble_eq_true rfl) rfl rfl ?_
            refine lz_X7_sheet_77 hd v1 v2 v3  _ (fun z25 g26 => ?_) fuel0 0 g17 
            refine y_iconst (x := 1) (q := 107) rfl (by decide) rfl ?_
            exact y_retI rfl (by decide) rfl rfl
          · skip
            refine y_iconst (x := 1) (q := 55) rfl (by decide) rfl ?_
            refine y_goto (q := 59) rfl rfl ?_
            refine y_guard (fun c28 => ?_)
            refine y_bast (n := 4) (N := 4) (X := v1.toInt) (K := v1.toInt.toNat) (q := 60) rfl atM14 rfl rfl c28 rfl rfl (fun g27 => ?_)
            refine y_aload_n (q := 61) rfl rfl rfl ?_
            refine y_getR (b := 15) (q := 64) rfl rfl (by decide) atM0 rfl rfl ?_
            refine y_iload_n (q := 65) rfl rfl rfl ?_
            refine y_iload_n (q := 66) rfl rfl rfl ?_
            refine y_guard (fun c30 => ?_)
            refine y_iast (n := 4) (N := 4) (X := v1.toInt) (K := v1.toInt.toNat) (q := 67) rfl atM15 rfl rfl c30 rfl rfl (fun g29 => ?_)
            refine y_aload_n (q := 68) rfl rfl rfl ?_
            refine y_getR (b := 16) (q := 71) rfl rfl (by decide) atM0 rfl rfl ?_
            refine y_iload_n (q := 72) rfl rfl rfl ?_
            refine y_iload_n (q := 73) rfl rfl rfl ?_
            refine y_guard (fun c32 => ?_)
            refine y_iast (n := 4) (N := 4) (X := v1.toInt) (K := v1.toInt.toNat) (q := 74) rfl atM16 rfl rfl c32 rfl rfl (fun g31 => ?_)
            refine y_iconst (x := 0) (q := 75) rfl (by decide) rfl ?_
            refine y_istore (lo' := [some (.ref 0), some (.int v1), some (.int v2), some (.int v3), some (.int 0)]) (q := 77) rfl (Nat.le_of_ble_eq_true rfl) rfl rfl ?_
            refine lz_X7_sheet_77 hd v1 v2 v3  _ (fun z33 g34 => ?_) fuel0 0 g31 
            refine y_iconst (x := 1) (q := 107) rfl (by decide) rfl ?_
            exact y_retI rfl (by decide) rfl rfl
        · skip
          refine y_iload_n (q := 39) rfl rfl rfl ?_
          refine y_ge0 (q := 45) (q' := 42) rfl rfl rfl rfl (fun c35 => ?_) (fun c36 => ?_)
          · skip
            refine y_bipush (x := (-14)) (q := 44) rfl (by decide) rfl ?_
            exact y_retI rfl (by decide) rfl rfl
          · skip
            refine y_aload_n (q := 46) rfl rfl rfl ?_
            refine y_getR (b := 14) (q := 49) rfl rfl (by decide) atM0 rfl rfl ?_
            refine y_iload_n (q := 50) rfl rfl rfl ?_
            refine y_iload_n (q := 51) rfl rfl rfl ?_
            refine y_lt0 (q := 58) (q' := 54) rfl rfl rfl rfl (fun c37 => ?_) (fun c38 => ?_)
            · skip
              refine y_iconst (x := 0) (q := 59) rfl (by decide) rfl ?_
              refine y_guard (fun c40 => ?_)
              refine y_bast (n := 4) (N := 4) (X := v1.toInt) (K := v1.toInt.toNat) (q := 60) rfl atM14 rfl rfl c40 rfl rfl (fun g39 => ?_)
              refine y_aload_n (q := 61) rfl rfl rfl ?_
              refine y_getR (b := 15) (q := 64) rfl rfl (by decide) atM0 rfl rfl ?_
              refine y_iload_n (q := 65) rfl rfl rfl ?_
              refine y_iload_n (q := 66) rfl rfl rfl ?_
              refine y_guard (fun c42 => ?_)
              refine y_iast (n := 4) (N := 4) (X := v1.toInt) (K := v1.toInt.toNat) (q := 67) rfl atM15 rfl rfl c42 rfl rfl (fun g41 => ?_)
              refine y_aload_n (q := 68) rfl rfl rfl ?_
              refine y_getR (b := 16) (q := 71) rfl rfl (by decide) atM0 rfl rfl ?_
              refine y_iload_n (q := 72) rfl rfl rfl ?_
              refine y_iload_n (q := 73) rfl rfl rfl ?_
              refine y_guard (fun c44 => ?_)
              refine y_iast (n := 4) (N := 4) (X := v1.toInt) (K := v1.toInt.toNat) (q := 74) rfl atM16 rfl rfl c44 rfl rfl (fun g43 => ?_)
              refine y_iconst (x := 0) (q := 75) rfl (by decide) rfl ?_
              refine y_istore (lo' := [some (.ref 0), some (.int v1), some (.int v2), some (.int v3), some (.int 0)]) (q := 77) rfl (Nat.le_of_ble_eq_true rfl) rfl rfl ?_
              refine lz_X7_sheet_77 hd v1 v2 v3  _ (fun z45 g46 => ?_) fuel0 0 g43 
              refine y_iconst (x := 1) (q := 107) rfl (by decide) rfl ?_
              exact y_retI rfl (by decide) rfl rfl
            · skip
              refine y_iconst (x := 1) (q := 55) rfl (by decide) rfl ?_
              refine y_goto (q := 59) rfl rfl ?_
              refine y_guard (fun c48 => ?_)
              refine y_bast (n := 4) (N := 4) (X := v1.toInt) (K := v1.toInt.toNat) (q := 60) rfl atM14 rfl rfl c48 rfl rfl (fun g47 => ?_)
              refine y_aload_n (q := 61) rfl rfl rfl ?_
              refine y_getR (b := 15) (q := 64) rfl rfl (by decide) atM0 rfl rfl ?_
              refine y_iload_n (q := 65) rfl rfl rfl ?_
              refine y_iload_n (q := 66) rfl rfl rfl ?_
              refine y_guard (fun c50 => ?_)
              refine y_iast (n := 4) (N := 4) (X := v1.toInt) (K := v1.toInt.toNat) (q := 67) rfl atM15 rfl rfl c50 rfl rfl (fun g49 => ?_)
              refine y_aload_n (q := 68) rfl rfl rfl ?_
              refine y_getR (b := 16) (q := 71) rfl rfl (by decide) atM0 rfl rfl ?_
              refine y_iload_n (q := 72) rfl rfl rfl ?_
              refine y_iload_n (q := 73) rfl rfl rfl ?_
              refine y_guard (fun c52 => ?_)
              refine y_iast (n := 4) (N := 4) (X := v1.toInt) (K := v1.toInt.toNat) (q := 74) rfl atM16 rfl rfl c52 rfl rfl (fun g51 => ?_)
              refine y_iconst (x := 0) (q := 75) rfl (by decide) rfl ?_
              refine y_istore (lo' := [some (.ref 0), some (.int v1), some (.int v2), some (.int v3), some (.int 0)]) (q := 77) rfl (Nat.le_of_ble_eq_true rfl) rfl rfl ?_
              refine lz_X7_sheet_77 hd v1 v2 v3  _ (fun z53 g54 => ?_) fuel0 0 g51 
              refine y_iconst (x := 1) (q := 107) rfl (by decide) rfl ?_
              exact y_retI rfl (by decide) rfl rfl
      · skip
        refine y_iload_n (q := 26) rfl rfl rfl ?_
        refine y_bipush (x := 40) (q := 28) rfl (by decide) rfl ?_
        refine y_le (q := 34) (q' := 31) rfl rfl (by decide) rfl rfl (fun c55 => ?_) (fun c56 => ?_)
        · skip
          refine y_bipush (x := (-2)) (q := 33) rfl (by decide) rfl ?_
          exact y_retI rfl (by decide) rfl rfl
        · skip
          refine y_iload_n (q := 35) rfl rfl rfl ?_
          refine y_lt0 (q := 45) (q' := 38) rfl rfl rfl rfl (fun c57 => ?_) (fun c58 => ?_)
          · skip
            refine y_aload_n (q := 46) rfl rfl rfl ?_
            refine y_getR (b := 14) (q := 49) rfl rfl (by decide) atM0 rfl rfl ?_
            refine y_iload_n (q := 50) rfl rfl rfl ?_
            refine y_iload_n (q := 51) rfl rfl rfl ?_
            refine y_lt0 (q := 58) (q' := 54) rfl rfl rfl rfl (fun c59 => ?_) (fun c60 => ?_)
            · skip
              refine y_iconst (x := 0) (q := 59) rfl (by decide) rfl ?_
              refine y_guard (fun c62 => ?_)
              refine y_bast (n := 4) (N := 4) (X := v1.toInt) (K := v1.toInt.toNat) (q := 60) rfl atM14 rfl rfl c62 rfl rfl (fun g61 => ?_)
              refine y_aload_n (q := 61) rfl rfl rfl ?_
              refine y_getR (b := 15) (q := 64) rfl rfl (by decide) atM0 rfl rfl ?_
              refine y_iload_n (q := 65) rfl rfl rfl ?_
              refine y_iload_n (q := 66) rfl rfl rfl ?_
              refine y_guard (fun c64 => ?_)
              refine y_iast (n := 4) (N := 4) (X := v1.toInt) (K := v1.toInt.toNat) (q := 67) rfl atM15 rfl rfl c64 rfl rfl (fun g63 => ?_)
              refine y_aload_n (q := 68) rfl rfl rfl ?_
              refine y_getR (b := 16) (q := 71) rfl rfl (by decide) atM0 rfl rfl ?_
              refine y_iload_n (q := 72) rfl rfl rfl ?_
              refine y_iload_n (q := 73) rfl rfl rfl ?_
              refine y_guard (fun c66 => ?_)
              refine y_iast (n := 4) (N := 4) (X := v1.toInt) (K := v1.toInt.toNat) (q := 74) rfl atM16 rfl rfl c66 rfl rfl (fun g65 => ?_)
              refine y_iconst (x := 0) (q := 75) rfl (by decide) rfl ?_
              refine y_istore (lo' := [some (.ref 0), some (.int v1), some (.int v2), some (.int v3), some (.int 0)]) (q := 77) rfl (Nat.le_of_ble_eq_true rfl) rfl rfl ?_
              refine lz_X7_sheet_77 hd v1 v2 v3  _ (fun z67 g68 => ?_) fuel0 0 g65 
              refine y_iconst (x := 1) (q := 107) rfl (by decide) rfl ?_
              exact y_retI rfl (by decide) rfl rfl
            · skip
              refine y_iconst (x := 1) (q := 55) rfl (by decide) rfl ?_
              refine y_goto (q := 59) rfl rfl ?_
              refine y_guard (fun c70 => ?_)
              refine y_bast (n := 4) (N := 4) (X := v1.toInt) (K := v1.toInt.toNat) (q := 60) rfl atM14 rfl rfl c70 rfl rfl (fun g69 => ?_)
              refine y_aload_n (q := 61) rfl rfl rfl ?_
              refine y_getR (b := 15) (q := 64) rfl rfl (by decide) atM0 rfl rfl ?_
              refine y_iload_n (q := 65) rfl rfl rfl ?_
              refine y_iload_n (q := 66) rfl rfl rfl ?_
              refine y_guard (fun c72 => ?_)
              refine y_iast (n := 4) (N := 4) (X := v1.toInt) (K := v1.toInt.toNat) (q := 67) rfl atM15 rfl rfl c72 rfl rfl (fun g71 => ?_)
              refine y_aload_n (q := 68) rfl rfl rfl ?_
              refine y_getR (b := 16) (q := 71) rfl rfl (by decide) atM0 rfl rfl ?_
              refine y_iload_n (q := 72) rfl rfl rfl ?_
              refine y_iload_n (q := 73) rfl rfl rfl ?_
              refine y_guard (fun c74 => ?_)
              refine y_iast (n := 4) (N := 4) (X := v1.toInt) (K := v1.toInt.toNat) (q := 74) rfl atM16 rfl rfl c74 rfl rfl (fun g73 => ?_)
              refine y_iconst (x := 0) (q := 75) rfl (by decide) rfl ?_
              refine y_istore (lo' := [some (.ref 0), some (.int v1), some (.int v2), some (.int v3), some (.int 0)]) (q := 77) rfl (Nat.le_of_ble_eq_true rfl) rfl rfl ?_
              refine lz_X7_sheet_77 hd v1 v2 v3  _ (fun z75 g76 => ?_) fuel0 0 g73 
              refine y_iconst (x := 1) (q := 107) rfl (by decide) rfl ?_
              exact y_retI rfl (by decide) rfl rfl
          · skip
            refine y_iload_n (q := 39) rfl rfl rfl ?_
            refine y_ge0 (q := 45) (q' := 42) rfl rfl rfl rfl (fun c77 => ?_) (fun c78 => ?_)
            · skip
              refine y_bipush (x := (-14)) (q := 44) rfl (by decide) rfl ?_
              exact y_retI rfl (by decide) rfl rfl
            · skip
              refine y_aload_n (q := 46) rfl rfl rfl ?_
              refine y_getR (b := 14) (q := 49) rfl rfl (by decide) atM0 rfl rfl ?_
              refine y_iload_n (q := 50) rfl rfl rfl ?_
              refine y_iload_n (q := 51) rfl rfl rfl ?_
              refine y_lt0 (q := 58) (q' := 54) rfl rfl rfl rfl (fun c79 => ?_) (fun c80 => ?_)
              · skip
                refine y_iconst (x := 0) (q := 59) rfl (by decide) rfl ?_
                refine y_guard (fun c82 => ?_)
                refine y_bast (n := 4) (N := 4) (X := v1.toInt) (K := v1.toInt.toNat) (q := 60) rfl atM14 rfl rfl c82 rfl rfl (fun g81 => ?_)
                refine y_aload_n (q := 61) rfl rfl rfl ?_
                refine y_getR (b := 15) (q := 64) rfl rfl (by decide) atM0 rfl rfl ?_
                refine y_iload_n (q := 65) rfl rfl rfl ?_
                refine y_iload_n (q := 66) rfl rfl rfl ?_
                refine y_guard (fun c84 => ?_)
                refine y_iast (n := 4) (N := 4) (X := v1.toInt) (K := v1.toInt.toNat) (q := 67) rfl atM15 rfl rfl c84 rfl rfl (fun g83 => ?_)
                refine y_aload_n (q := 68) rfl rfl rfl ?_
                refine y_getR (b := 16) (q := 71) rfl rfl (by decide) atM0 rfl rfl ?_
                refine y_iload_n (q := 72) rfl rfl rfl ?_
                refine y_iload_n (q := 73) rfl rfl rfl ?_
                refine y_guard (fun c86 => ?_)
                refine y_iast (n := 4) (N := 4) (X := v1.toInt) (K := v1.toInt.toNat) (q := 74) rfl atM16 rfl rfl c86 rfl rfl (fun g85 => ?_)
                refine y_iconst (x := 0) (q := 75) rfl (by decide) rfl ?_
                refine y_istore (lo' := [some (.ref 0), some (.int v1), some (.int v2), some (.int v3), some (.int 0)]) (q := 77) rfl (Nat.le_of_ble_eq_true rfl) rfl rfl ?_
                refine lz_X7_sheet_77 hd v1 v2 v3  _ (fun z87 g88 => ?_) fuel0 0 g85 
                refine y_iconst (x := 1) (q := 107) rfl (by decide) rfl ?_
                exact y_retI rfl (by decide) rfl rfl
              · skip
                refine y_iconst (x := 1) (q := 55) rfl (by decide) rfl ?_
                refine y_goto (q := 59) rfl rfl ?_
                refine y_guard (fun c90 => ?_)
                refine y_bast (n := 4) (N := 4) (X := v1.toInt) (K := v1.toInt.toNat) (q := 60) rfl atM14 rfl rfl c90 rfl rfl (fun g89 => ?_)
                refine y_aload_n (q := 61) rfl rfl rfl ?_
                refine y_getR (b := 15) (q := 64) rfl rfl (by decide) atM0 rfl rfl ?_
                refine y_iload_n (q := 65) rfl rfl rfl ?_
                refine y_iload_n (q := 66) rfl rfl rfl ?_
                refine y_guard (fun c92 => ?_)
                refine y_iast (n := 4) (N := 4) (X := v1.toInt) (K := v1.toInt.toNat) (q := 67) rfl atM15 rfl rfl c92 rfl rfl (fun g91 => ?_)
                refine y_aload_n (q := 68) rfl rfl rfl ?_
                refine y_getR (b := 16) (q := 71) rfl rfl (by decide) atM0 rfl rfl ?_
                refine y_iload_n (q := 72) rfl rfl rfl ?_
                refine y_iload_n (q := 73) rfl rfl rfl ?_
                refine y_guard (fun c94 => ?_)
                refine y_iast (n := 4) (N := 4) (X := v1.toInt) (K := v1.toInt.toNat) (q := 74) rfl atM16 rfl rfl c94 rfl rfl (fun g93 => ?_)
                refine y_iconst (x := 0) (q := 75) rfl (by decide) rfl ?_
                refine y_istore (lo' := [some (.ref 0), some (.int v1), some (.int v2), some (.int v3), some (.int 0)]) (q := 77) rfl (Nat.le_of_ble_eq_true rfl) rfl rfl ?_
                refine lz_X7_sheet_77 hd v1 v2 v3  _ (fun z95 g96 => ?_) fuel0 0 g93 
                refine y_iconst (x := 1) (q := 107) rfl (by decide) rfl ?_
                exact y_retI rfl (by decide) rfl rfl
def l_X7_film_39 (v1 : Int32) (v2 : Int32) (k : dH → Option (Int32 × dH)) : Nat → Int32 → dH → Option (Int32 × dH)
  | 0, _, _ => none
  | n + 1, v3, h => if v3.toInt < (h 0 13).toInt then (oP (f_X7_strengthOf v2 v3 h) (fun r13 => if 0 ≤ ((40 * v1) + v3).toInt ∧ ((40 * v1) + v3).toInt < 160 then (oH (dU h 17 (((40 * v1) + v3).toInt.toNat) r13) (fun g14 => l_X7_film_39 v1 v2 k n (v3 + 1) g14)) else none)) else (k  h)
theorem lz_X7_film_39 {d : Nat} (hd : 45 ≤ d) (v1 : Int32) (v2 : Int32) (k : dH → Option (Int32 × dH)) (hk : ∀ (w3 : Int32) (h : dH), dY shM d mj219 dI (k h) 70 [some (.ref 0), some (.int v1), some (.int v2), some (.int w3)] [] h) : ∀ (n : Nat) (v3 : Int32) (h : dH), dY shM d mj219 dI (l_X7_film_39 v1 v2 k n v3 h) 39 [some (.ref 0), some (.int v1), some (.int v2), some (.int v3)] [] h
  | 0, _, _ => dY_none
  | n + 1, v3, h => by
    rw [l_X7_film_39]
    refine y_iload_n (q := 40) rfl rfl rfl ?_
    refine y_aload_n (q := 41) rfl rfl rfl ?_
    refine y_getI (q := 44) rfl rfl (by decide) atM0 rfl rfl ?_
    refine y_ge (q := 70) (q' := 47) rfl rfl rfl rfl rfl (fun c11 => ?_) (fun c12 => ?_)
    · skip
      refine y_aload_n (q := 48) rfl rfl rfl ?_
      refine y_getR (b := 17) (q := 51) rfl rfl (by decide) atM0 rfl rfl ?_
      refine y_bipush (x := 40) (q := 53) rfl (by decide) rfl ?_
      refine y_iload_n (q := 54) rfl rfl rfl ?_
      refine y_imul (q := 55) rfl rfl ?_
      refine y_iload_n (q := 56) rfl rfl rfl ?_
      refine y_iadd (q := 57) rfl rfl ?_
      refine y_aload_n (q := 58) rfl rfl rfl ?_
      refine y_iload_n (q := 59) rfl rfl rfl ?_
      refine y_iload_n (q := 60) rfl rfl rfl ?_
      refine y_callP (I := .invokevirtual 139) (idx := 139) (KD := 1) (J := 136) (mj := mj126) (as := [.ref 0, .int v2, .int v3]) (r := [.int ((40 * v1) + v3), .ref 17]) (q := 63) rfl (fun _ _ _ _ _ _ => rfl) rfl (by decide) rfl rfl rfl rfl rfl (Nat.le_of_ble_eq_true rfl) (d_recv atM0 (by decide) (by decide)) rfl (m_X7_strengthOf (Nat.le_trans (by decide) hd) v2 v3 h) (fun r13 => ?_)
      refine y_guard (fun c15 => ?_)
      refine y_iast (n := 160) (N := 160) (X := ((40 * v1) + v3).toInt) (K := ((40 * v1) + v3).toInt.toNat) (q := 64) rfl atM17 rfl rfl c15 rfl rfl (fun g14 => ?_)
      refine y_iinc (z := (v3 + 1)) (lo' := [some (.ref 0), some (.int v1), some (.int v2), some (.int (v3 + 1))]) (q := 67) rfl rfl (Nat.le_of_ble_eq_true rfl) (by rw [oi_1]) rfl rfl ?_
      refine y_goto (q := 39) rfl rfl ?_
      exact lz_X7_film_39 hd v1 v2 k hk n (v3 + 1) g14 
    · skip
      exact hk  v3 h
def f_X7_film (v1 : Int32) (v2 : Int32) (h : dH) : Option (Int32 × dH) := oP (f_X7_isSheet v1) (fun r1 => if r1.toInt = 0 then (some ((-2), h)) else (oP (f_X7_isHouse v2 h) (fun r4 => if r4.toInt = 0 then (some ((-2), h)) else (oI (f_X7_sheet v1 0 (h 0 13) h) (fun r7 g8 => oV (f_X7_laysAside  g8) (fun g9 => oV (f_X7_feasts  g9) (fun g10 => l_X7_film_39 v1 v2  (fun g17 => oV (f_X7_laysBack  g17) (fun g18 => some ((g18 0 13), g18))) fuel0 0 g10)))))))
theorem m_X7_film {d : Nat} (hd : 46 ≤ d) (v1 : Int32) (v2 : Int32) (h : dH) : dX shM d 219 [.ref 0, .int v1, .int v2] dI (f_X7_film v1 v2 h) h := by
  obtain ⟨e, rfl⟩ : ∃ e, d = e + 1 := ⟨d - 1, by omega⟩
  have hd : 45 ≤ e := by omega
  refine dX_of (mj := mj219) (lo := [some (.ref 0), some (.int v1), some (.int v2), none]) rfl (Nat.le_of_ble_eq_true rfl) rfl ?_
  unfold f_X7_film
  refine y_iload_n (q := 1) rfl rfl rfl ?_
  refine y_callP (I := .invokestatic 436) (idx := 436) (KD := 0) (J := 236) (mj := mj226) (as := [.int v1]) (r := []) (q := 4) rfl (fun _ _ _ _ _ _ => rfl) rfl (by decide) rfl rfl rfl rfl rfl (Nat.le_of_ble_eq_true rfl) rfl rfl (m_X7_isSheet (Nat.le_trans (by decide) hd) v1 h) (fun r1 => ?_)
  refine y_eq0 (q := 15) (q' := 7) rfl rfl rfl rfl (fun c2 => ?_) (fun c3 => ?_)
  · skip
    refine y_bipush (x := (-2)) (q := 17) rfl (by decide) rfl ?_
    exact y_retI rfl (by decide) rfl rfl
  · skip
    refine y_aload_n (q := 8) rfl rfl rfl ?_
    refine y_iload_n (q := 9) rfl rfl rfl ?_
    refine y_callP (I := .invokevirtual 105) (idx := 105) (KD := 1) (J := 132) (mj := mj122) (as := [.ref 0, .int v2]) (r := []) (q := 12) rfl (fun _ _ _ _ _ _ => rfl) rfl (by decide) rfl rfl rfl rfl rfl (Nat.le_of_ble_eq_true rfl) (d_recv atM0 (by decide) (by decide)) rfl (m_X7_isHouse (Nat.le_trans (by decide) hd) v2 h) (fun r4 => ?_)
    refine y_ne0 (q := 18) (q' := 15) rfl rfl rfl rfl (fun c5 => ?_) (fun c6 => ?_)
    · skip
      refine y_bipush (x := (-2)) (q := 17) rfl (by decide) rfl ?_
      exact y_retI rfl (by decide) rfl rfl
    · skip
      refine y_aload_n (q := 19) rfl rfl rfl ?_
      refine y_iload_n (q := 20) rfl rfl rfl ?_
      refine y_iconst (x := 0) (q := 21) rfl (by decide) rfl ?_
      refine y_aload_n (q := 22) rfl rfl rfl ?_
      refine y_getI (q := 25) rfl rfl (by decide) atM0 rfl rfl ?_
      refine y_callI (I := .invokevirtual 448) (idx := 448) (KD := 1) (J := 237) (mj := mj227) (as := [.ref 0, .int v1, .int 0, .int (h 0 13)]) (r := []) (q := 28) rfl (fun _ _ _ _ _ _ => rfl) rfl (by decide) rfl rfl rfl rfl rfl (Nat.le_of_ble_eq_true rfl) (d_recv atM0 (by decide) (by decide)) rfl (m_X7_sheet (Nat.le_trans (by decide) hd) v1 0 (h 0 13) h) (fun r7 g8 => ?_)
      refine y_pop (q := 29) rfl rfl ?_
      refine y_aload_n (q := 30) rfl rfl rfl ?_
      refine y_callV (I := .invokevirtual 413) (idx := 413) (KD := 1) (J := 213) (mj := mj203) (as := [.ref 0]) (r := []) (q := 33) rfl (fun _ _ _ _ _ _ => rfl) rfl (by decide) rfl rfl rfl rfl rfl (Nat.le_of_ble_eq_true rfl) (d_recv atM0 (by decide) (by decide)) rfl (m_X7_laysAside (Nat.le_trans (by decide) hd)  g8) (fun g9 => ?_)
      refine y_aload_n (q := 34) rfl rfl rfl ?_
      refine y_callV (I := .invokevirtual 376) (idx := 376) (KD := 1) (J := 198) (mj := mj188) (as := [.ref 0]) (r := []) (q := 37) rfl (fun _ _ _ _ _ _ => rfl) rfl (by decide) rfl rfl rfl rfl rfl (Nat.le_of_ble_eq_true rfl) (d_recv atM0 (by decide) (by decide)) rfl (m_X7_feasts (Nat.le_trans (by decide) hd)  g9) (fun g10 => ?_)
      refine y_iconst (x := 0) (q := 38) rfl (by decide) rfl ?_
      refine y_istore_n (lo' := [some (.ref 0), some (.int v1), some (.int v2), some (.int 0)]) (q := 39) rfl (Nat.le_of_ble_eq_true rfl) rfl rfl ?_
      refine lz_X7_film_39 hd v1 v2  _ (fun z16 g17 => ?_) fuel0 0 g10 
      refine y_aload_n (q := 71) rfl rfl rfl ?_
      refine y_callV (I := .invokevirtual 420) (idx := 420) (KD := 1) (J := 214) (mj := mj204) (as := [.ref 0]) (r := []) (q := 74) rfl (fun _ _ _ _ _ _ => rfl) rfl (by decide) rfl rfl rfl rfl rfl (Nat.le_of_ble_eq_true rfl) (d_recv atM0 (by decide) (by decide)) rfl (m_X7_laysBack (Nat.le_trans (by decide) hd)  g17) (fun g18 => ?_)
      refine y_aload_n (q := 75) rfl rfl rfl ?_
      refine y_getI (q := 78) rfl rfl (by decide) atM0 rfl rfl ?_
      exact y_retI rfl (by decide) rfl rfl
def l_X7_friendsBy_9  (k : dH → Option (Int32 × dH)) : Nat → Int32 → Int32 → dH → Option (Int32 × dH)
  | 0, _, _, _ => none
  | n + 1, v3, v4, h => if v4.toInt < (h 0 13).toInt then (if 0 ≤ v4.toInt ∧ v4.toInt < 8 then (oH (dU h 6 (v4.toInt.toNat) (drem (dushr ((v3 * 1103515245) + 12345) 9) 4)) (fun g4 => l_X7_friendsBy_9  k n ((v3 * 1103515245) + 12345) (v4 + 1) g4)) else none) else (k  h)
theorem lz_X7_friendsBy_9 {d : Nat} (hd : 47 ≤ d) (v1 : Int32) (v2 : Int32) (k : dH → Option (Int32 × dH)) (hk : ∀ (w3 : Int32) (w4 : Int32) (h : dH), dY shM d mj220 dI (k h) 47 [some (.ref 0), some (.int v1), some (.int v2), some (.int w3), some (.int w4)] [] h) : ∀ (n : Nat) (v3 : Int32) (v4 : Int32) (h : dH), dY shM d mj220 dI (l_X7_friendsBy_9  k n v3 v4 h) 9 [some (.ref 0), some (.int v1), some (.int v2), some (.int v3), some (.int v4)] [] h
  | 0, _, _, _ => dY_none
  | n + 1, v3, v4, h => by
    rw [l_X7_friendsBy_9]
    refine y_iload (q := 11) rfl rfl rfl ?_
    refine y_aload_n (q := 12) rfl rfl rfl ?_
    refine y_getI (q := 15) rfl rfl (by decide) atM0 rfl rfl ?_
    refine y_ge (q := 47) (q' := 18) rfl rfl rfl rfl rfl (fun c2 => ?_) (fun c3 => ?_)
    · skip
      refine y_iload_n (q := 19) rfl rfl rfl ?_
      refine y_ldc_w (x := 1103515245) (q := 22) rfl rfl rfl ?_
      refine y_imul (q := 23) rfl rfl ?_
      refine y_sipush (x := 12345) (q := 26) rfl (by decide) rfl ?_
      refine y_iadd (q := 27) rfl rfl ?_
      refine y_istore_n (lo' := [some (.ref 0), some (.int v1), some (.int v2), some (.int ((v3 * 1103515245) + 12345)), some (.int v4)]) (q := 28) rfl (Nat.le_of_ble_eq_true rfl) rfl rfl ?_
      refine y_aload_n (q := 29) rfl rfl rfl ?_
      refine y_getR (b := 6) (q := 32) rfl rfl (by decide) atM0 rfl rfl ?_
      refine y_iload (q := 34) rfl rfl rfl ?_
      refine y_iload_n (q := 35) rfl rfl rfl ?_
      refine y_bipush (x := 9) (q := 37) rfl (by decide) rfl ?_
      refine y_iushr (q := 38) rfl rfl ?_
      refine y_iconst (x := 4) (q := 39) rfl (by decide) rfl ?_
      refine y_irem (q := 40) rfl (by decide) rfl ?_
      refine y_guard (fun c5 => ?_)
      refine y_iast (n := 8) (N := 8) (X := v4.toInt) (K := v4.toInt.toNat) (q := 41) rfl atM6 rfl rfl c5 rfl rfl (fun g4 => ?_)
      refine y_iinc (z := (v4 + 1)) (lo' := [some (.ref 0), some (.int v1), some (.int v2), some (.int ((v3 * 1103515245) + 12345)), some (.int (v4 + 1))]) (q := 44) rfl rfl (Nat.le_of_ble_eq_true rfl) (by rw [oi_1]) rfl rfl ?_
      refine y_goto (q := 9) rfl rfl ?_
      exact lz_X7_friendsBy_9 hd v1 v2 k hk n ((v3 * 1103515245) + 12345) (v4 + 1) g4 
    · skip
      exact hk  v3 v4 h
def f_X7_friendsBy (v1 : Int32) (v2 : Int32) (h : dH) : Option (Int32 × dH) := oV (f_X7_clears  h) (fun g1 => l_X7_friendsBy_9   (fun g8 => oI (f_X7_friendsBehind v2 g8) (fun r9 g10 => oV (f_X7_sitsAgain  g10) (fun g11 => some (r9, g11)))) fuel0 v1 0 g1)
theorem m_X7_friendsBy {d : Nat} (hd : 48 ≤ d) (v1 : Int32) (v2 : Int32) (h : dH) : dX shM d 220 [.ref 0, .int v1, .int v2] dI (f_X7_friendsBy v1 v2 h) h := by
  obtain ⟨e, rfl⟩ : ∃ e, d = e + 1 := ⟨d - 1, by omega⟩
  have hd : 47 ≤ e := by omega
  refine dX_of (mj := mj220) (lo := [some (.ref 0), some (.int v1), some (.int v2), none, none]) rfl (Nat.le_of_ble_eq_true rfl) rfl ?_
  unfold f_X7_friendsBy
  refine y_aload_n (q := 1) rfl rfl rfl ?_
  refine y_callV (I := .invokevirtual 430) (idx := 430) (KD := 1) (J := 221) (mj := mj211) (as := [.ref 0]) (r := []) (q := 4) rfl (fun _ _ _ _ _ _ => rfl) rfl (by decide) rfl rfl rfl rfl rfl (Nat.le_of_ble_eq_true rfl) (d_recv atM0 (by decide) (by decide)) rfl (m_X7_clears (Nat.le_trans (by decide) hd)  h) (fun g1 => ?_)
  refine y_iload_n (q := 5) rfl rfl rfl ?_
  refine y_istore_n (lo' := [some (.ref 0), some (.int v1), some (.int v2), some (.int v1), none]) (q := 6) rfl (Nat.le_of_ble_eq_true rfl) rfl rfl ?_
  refine y_iconst (x := 0) (q := 7) rfl (by decide) rfl ?_
  refine y_istore (lo' := [some (.ref 0), some (.int v1), some (.int v2), some (.int v1), some (.int 0)]) (q := 9) rfl (Nat.le_of_ble_eq_true rfl) rfl rfl ?_
  refine lz_X7_friendsBy_9 hd v1 v2  _ (fun z6 z7 g8 => ?_) fuel0 v1 0 g1 
  refine y_aload_n (q := 48) rfl rfl rfl ?_
  refine y_iload_n (q := 49) rfl rfl rfl ?_
  refine y_callI (I := .invokevirtual 425) (idx := 425) (KD := 1) (J := 217) (mj := mj207) (as := [.ref 0, .int v2]) (r := []) (q := 52) rfl (fun _ _ _ _ _ _ => rfl) rfl (by decide) rfl rfl rfl rfl rfl (Nat.le_of_ble_eq_true rfl) (d_recv atM0 (by decide) (by decide)) rfl (m_X7_friendsBehind (Nat.le_trans (by decide) hd) v2 g8) (fun r9 g10 => ?_)
  refine y_istore (lo' := [some (.ref 0), some (.int v1), some (.int v2), some (.int z6), some (.int r9)]) (q := 54) rfl (Nat.le_of_ble_eq_true rfl) rfl rfl ?_
  refine y_aload_n (q := 55) rfl rfl rfl ?_
  refine y_callV (I := .invokevirtual 433) (idx := 433) (KD := 1) (J := 222) (mj := mj212) (as := [.ref 0]) (r := []) (q := 58) rfl (fun _ _ _ _ _ _ => rfl) rfl (by decide) rfl rfl rfl rfl rfl (Nat.le_of_ble_eq_true rfl) (d_recv atM0 (by decide) (by decide)) rfl (m_X7_sitsAgain (Nat.le_trans (by decide) hd)  g10) (fun g11 => ?_)
  refine y_iload (q := 60) rfl rfl rfl ?_
  exact y_retI rfl (by decide) rfl rfl
def f_X7_drawn (v1 : Int32) (v2 : Int32) (h : dH) : Option (Int32 × dH) := oP (f_X7_in (v2.toInt64) 0 20) (fun r1 => if r1.toInt = 0 then (some ((-2), h)) else (oI (f_X7_friendsBy v1 v2 h) (fun r4 g5 => some (r4, g5))))
theorem m_X7_drawn {d : Nat} (hd : 49 ≤ d) (v1 : Int32) (v2 : Int32) (h : dH) : dX shM d 221 [.ref 0, .int v1, .int v2] dI (f_X7_drawn v1 v2 h) h := by
  obtain ⟨e, rfl⟩ : ∃ e, d = e + 1 := ⟨d - 1, by omega⟩
  have hd : 48 ≤ e := by omega
  refine dX_of (mj := mj221) (lo := [some (.ref 0), some (.int v1), some (.int v2)]) rfl (Nat.le_of_ble_eq_true rfl) rfl ?_
  unfold f_X7_drawn
  refine y_iload_n (q := 1) rfl rfl rfl ?_
  refine y_i2l (q := 2) rfl rfl ?_
  refine y_lconst (u := 0) (q := 3) rfl (by decide) rfl ?_
  refine y_ldc2_w (u := 20) (q := 6) rfl rfl rfl ?_
  refine y_callP (I := .invokestatic 91) (idx := 91) (KD := 0) (J := 128) (mj := mj118) (as := [.long v2.toInt64, .long 0, .long 20]) (r := []) (q := 9) rfl (fun _ _ _ _ _ _ => rfl) rfl (by decide) rfl rfl rfl rfl rfl (Nat.le_of_ble_eq_true rfl) rfl rfl (m_X7_in (Nat.le_trans (by decide) hd) (v2.toInt64) 0 20 h) (fun r1 => ?_)
  refine y_eq0 (q := 21) (q' := 12) rfl rfl rfl rfl (fun c2 => ?_) (fun c3 => ?_)
  · skip
    refine y_bipush (x := (-2)) (q := 23) rfl (by decide) rfl ?_
    exact y_retI rfl (by decide) rfl rfl
  · skip
    refine y_aload_n (q := 13) rfl rfl rfl ?_
    refine y_iload_n (q := 14) rfl rfl rfl ?_
    refine y_iload_n (q := 15) rfl rfl rfl ?_
    refine y_callI (I := .invokevirtual 452) (idx := 452) (KD := 1) (J := 230) (mj := mj220) (as := [.ref 0, .int v1, .int v2]) (r := []) (q := 18) rfl (fun _ _ _ _ _ _ => rfl) rfl (by decide) rfl rfl rfl rfl rfl (Nat.le_of_ble_eq_true rfl) (d_recv atM0 (by decide) (by decide)) rfl (m_X7_friendsBy (Nat.le_trans (by decide) hd) v1 v2 h) (fun r4 g5 => ?_)
    refine y_goto (q := 23) rfl rfl ?_
    exact y_retI rfl (by decide) rfl rfl
def l_X7_chance_45 (v1 : Int32) (v2 : Int32) (v3 : Int32) (k : Int64 → dH → Option (Int64 × dH)) : Nat → Int64 → Int32 → dH → Option (Int64 × dH)
  | 0, _, _, _ => none
  | n + 1, v5, v7, h => if v7.toInt < v2.toInt then (oI (f_X7_friendsBy (v1 + v7) 3 h) (fun r12 g13 => if r12.toInt < v3.toInt then (l_X7_chance_45 v1 v2 v3 k n (v5 + 0) (v7 + 1) g13) else (l_X7_chance_45 v1 v2 v3 k n (v5 + 1) (v7 + 1) g13))) else (k v5 h)
theorem lz_X7_chance_45 {d : Nat} (hd : 48 ≤ d) (v1 : Int32) (v2 : Int32) (v3 : Int32) (v4 : Int32) (z8 : Option Value) (z9 : Option Value) (z10 : Option Value) (z11 : Option Value) (z12 : Option Value) (k : Int64 → dH → Option (Int64 × dH)) (hk : ∀ (v5 : Int64) (w7 : Int32) (h : dH), dY shM d mj222 dL (k v5 h) 80 [some (.ref 0), some (.int v1), some (.int v2), some (.int v3), some (.int v4), some (.long v5), none, some (.int w7), z8, z9, z10, z11, z12] [] h) : ∀ (n : Nat) (v5 : Int64) (v7 : Int32) (h : dH), dY shM d mj222 dL (l_X7_chance_45 v1 v2 v3 k n v5 v7 h) 45 [some (.ref 0), some (.int v1), some (.int v2), some (.int v3), some (.int v4), some (.long v5), none, some (.int v7), z8, z9, z10, z11, z12] [] h
  | 0, _, _, _ => dY_none
  | n + 1, v5, v7, h => by
    rw [l_X7_chance_45]
    refine y_iload (q := 47) rfl rfl rfl ?_
    refine y_iload_n (q := 48) rfl rfl rfl ?_
    refine y_ge (q := 80) (q' := 51) rfl rfl rfl rfl rfl (fun c10 => ?_) (fun c11 => ?_)
    · skip
      refine y_lload (q := 53) rfl rfl rfl ?_
      refine y_aload_n (q := 54) rfl rfl rfl ?_
      refine y_iload_n (q := 55) rfl rfl rfl ?_
      refine y_iload (q := 57) rfl rfl rfl ?_
      refine y_iadd (q := 58) rfl rfl ?_
      refine y_iconst (x := 3) (q := 59) rfl (by decide) rfl ?_
      refine y_callI (I := .invokevirtual 452) (idx := 452) (KD := 1) (J := 230) (mj := mj220) (as := [.ref 0, .int (v1 + v7), .int 3]) (r := [.long v5]) (q := 62) rfl (fun _ _ _ _ _ _ => rfl) rfl (by decide) rfl rfl rfl rfl rfl (Nat.le_of_ble_eq_true rfl) (d_recv atM0 (by decide) (by decide)) rfl (m_X7_friendsBy (Nat.le_trans (by decide) hd) (v1 + v7) 3 h) (fun r12 g13 => ?_)
      refine y_iload_n (q := 63) rfl rfl rfl ?_
      refine y_lt (q := 70) (q' := 66) rfl rfl rfl rfl rfl (fun c14 => ?_) (fun c15 => ?_)
      · skip
        refine y_lconst (u := 0) (q := 71) rfl (by decide) rfl ?_
        refine y_ladd (q := 72) rfl rfl ?_
        refine y_lstore (lo' := [some (.ref 0), some (.int v1), some (.int v2), some (.int v3), some (.int v4), some (.long (v5 + 0)), none, some (.int v7), z8, z9, z10, z11, z12]) (q := 74) rfl (Nat.le_of_ble_eq_true rfl) rfl rfl ?_
        refine y_iinc (z := (v7 + 1)) (lo' := [some (.ref 0), some (.int v1), some (.int v2), some (.int v3), some (.int v4), some (.long (v5 + 0)), none, some (.int (v7 + 1)), z8, z9, z10, z11, z12]) (q := 77) rfl rfl (Nat.le_of_ble_eq_true rfl) (by rw [oi_1]) rfl rfl ?_
        refine y_goto (q := 45) rfl rfl ?_
        exact lz_X7_chance_45 hd v1 v2 v3 v4 z8 z9 z10 z11 z12 k hk n (v5 + 0) (v7 + 1) g13 
      · skip
        refine y_lconst (u := 1) (q := 67) rfl (by decide) rfl ?_
        refine y_goto (q := 71) rfl rfl ?_
        refine y_ladd (q := 72) rfl rfl ?_
        refine y_lstore (lo' := [some (.ref 0), some (.int v1), some (.int v2), some (.int v3), some (.int v4), some (.long (v5 + 1)), none, some (.int v7), z8, z9, z10, z11, z12]) (q := 74) rfl (Nat.le_of_ble_eq_true rfl) rfl rfl ?_
        refine y_iinc (z := (v7 + 1)) (lo' := [some (.ref 0), some (.int v1), some (.int v2), some (.int v3), some (.int v4), some (.long (v5 + 1)), none, some (.int (v7 + 1)), z8, z9, z10, z11, z12]) (q := 77) rfl rfl (Nat.le_of_ble_eq_true rfl) (by rw [oi_1]) rfl rfl ?_
        refine y_goto (q := 45) rfl rfl ?_
        exact lz_X7_chance_45 hd v1 v2 v3 v4 z8 z9 z10 z11 z12 k hk n (v5 + 1) (v7 + 1) g13 
    · skip
      exact hk v5 v7 h
def l_X7_chance_88  (k : Int64 → Option (Int64 × dH)) : Nat → Int64 → Int64 → Option (Int64 × dH)
  | 0, _, _ => none
  | n + 1, v7, v9 => if (dlcmp v9 0).toInt = 0 then (k v7 ) else (if ¬ v9 = 0 then l_X7_chance_88  k n v9 (v7 - v7 / v9 * v9)  else none)
theorem lz_X7_chance_88 {d : Nat} (hd : 48 ≤ d) (v1 : Int32) (v2 : Int32) (v3 : Int32) (v4 : Int32) (v5 : Int64) (h : dH) (k : Int64 → Option (Int64 × dH)) (hk : ∀ (v7 : Int64) (w9 : Int64) (z11 : Option Value) (z12 : Option Value), dY shM d mj222 dL (k v7) 113 [some (.ref 0), some (.int v1), some (.int v2), some (.int v3), some (.int v4), some (.long v5), none, some (.long v7), none, some (.long w9), none, z11, z12] [] h) : ∀ (n : Nat) (v7 : Int64) (v9 : Int64) (z11 : Option Value) (z12 : Option Value), dY shM d mj222 dL (l_X7_chance_88  k n v7 v9) 88 [some (.ref 0), some (.int v1), some (.int v2), some (.int v3), some (.int v4), some (.long v5), none, some (.long v7), none, some (.long v9), none, z11, z12] [] h
  | 0, _, _, _, _ => dY_none
  | n + 1, v7, v9, z11, z12 => by
    rw [l_X7_chance_88]
    refine y_lload (q := 90) rfl rfl rfl ?_
    refine y_lconst (u := 0) (q := 91) rfl (by decide) rfl ?_
    refine y_lcmp (q := 92) rfl rfl ?_
    refine y_eq0 (q := 113) (q' := 95) rfl rfl rfl rfl (fun c19 => ?_) (fun c20 => ?_)
    · skip
      exact hk v7 v9 (z11) (z12) 
    · skip
      refine y_lload (q := 97) rfl rfl rfl ?_
      refine y_lload (q := 99) rfl rfl rfl ?_
      refine y_guard (fun c21 => ?_)
      refine y_lrem (q := 100) rfl c21 rfl ?_
      refine y_lstore (lo' := [some (.ref 0), some (.int v1), some (.int v2), some (.int v3), some (.int v4), some (.long v5), none, some (.long v7), none, some (.long v9), none, some (.long (v7 - v7 / v9 * v9)), none]) (q := 102) rfl (Nat.le_of_ble_eq_true rfl) rfl rfl ?_
      refine y_lload (q := 104) rfl rfl rfl ?_
      refine y_lstore (lo' := [some (.ref 0), some (.int v1), some (.int v2), some (.int v3), some (.int v4), some (.long v5), none, some (.long v9), none, some (.long v9), none, some (.long (v7 - v7 / v9 * v9)), none]) (q := 106) rfl (Nat.le_of_ble_eq_true rfl) rfl rfl ?_
      refine y_lload (q := 108) rfl rfl rfl ?_
      refine y_lstore (lo' := [some (.ref 0), some (.int v1), some (.int v2), some (.int v3), some (.int v4), some (.long v5), none, some (.long v9), none, some (.long (v7 - v7 / v9 * v9)), none, some (.long (v7 - v7 / v9 * v9)), none]) (q := 110) rfl (Nat.le_of_ble_eq_true rfl) rfl rfl ?_
      refine y_goto (q := 88) rfl rfl ?_
      exact lz_X7_chance_88 hd v1 v2 v3 v4 v5 h k hk n v9 (v7 - v7 / v9 * v9)  (some (.long (v7 - v7 / v9 * v9))) (none)
def f_X7_chance (v1 : Int32) (v2 : Int32) (v3 : Int32) (v4 : Int32) (h : dH) : Option (Int64 × dH) := oP (f_X7_in (v2.toInt64) 1 20) (fun r1 => if r1.toInt = 0 then (some ((-4611686018427387904), h)) else (oP (f_X7_in (v3.toInt64) 0 28) (fun r4 => if r4.toInt = 0 then (some ((-4611686018427387904), h)) else (oP (f_X7_in (v4.toInt64) 0 1) (fun r7 => if r7.toInt = 0 then (some ((-4611686018427387904), h)) else (l_X7_chance_45 v1 v2 v3  (fun v5_16 g18 => l_X7_chance_88   (fun v7_22 => if v4.toInt = 0 then (if ¬ v7_22 = 0 then some ((v5_16 / v7_22), g18) else none) else (if ¬ v7_22 = 0 then some ((v2.toInt64 / v7_22), g18) else none)) fuel0 v5_16 (v2.toInt64) ) fuel0 0 0 h))))))
theorem m_X7_chance {d : Nat} (hd : 49 ≤ d) (v1 : Int32) (v2 : Int32) (v3 : Int32) (v4 : Int32) (h : dH) : dX shM d 222 [.ref 0, .int v1, .int v2, .int v3, .int v4] dL (f_X7_chance v1 v2 v3 v4 h) h := by
  obtain ⟨e, rfl⟩ : ∃ e, d = e + 1 := ⟨d - 1, by omega⟩
  have hd : 48 ≤ e := by omega
  refine dX_of (mj := mj222) (lo := [some (.ref 0), some (.int v1), some (.int v2), some (.int v3), some (.int v4), none, none, none, none, none, none, none, none]) rfl (Nat.le_of_ble_eq_true rfl) rfl ?_
  unfold f_X7_chance
  refine y_iload_n (q := 1) rfl rfl rfl ?_
  refine y_i2l (q := 2) rfl rfl ?_
  refine y_lconst (u := 1) (q := 3) rfl (by decide) rfl ?_
  refine y_ldc2_w (u := 20) (q := 6) rfl rfl rfl ?_
  refine y_callP (I := .invokestatic 91) (idx := 91) (KD := 0) (J := 128) (mj := mj118) (as := [.long v2.toInt64, .long 1, .long 20]) (r := []) (q := 9) rfl (fun _ _ _ _ _ _ => rfl) rfl (by decide) rfl rfl rfl rfl rfl (Nat.le_of_ble_eq_true rfl) rfl rfl (m_X7_in (Nat.le_trans (by decide) hd) (v2.toInt64) 1 20 h) (fun r1 => ?_)
  refine y_eq0 (q := 35) (q' := 12) rfl rfl rfl rfl (fun c2 => ?_) (fun c3 => ?_)
  · skip
    refine y_ldc2_w (u := (-4611686018427387904)) (q := 38) rfl rfl rfl ?_
    exact y_retL rfl rfl rfl
  · skip
    refine y_iload_n (q := 13) rfl rfl rfl ?_
    refine y_i2l (q := 14) rfl rfl ?_
    refine y_lconst (u := 0) (q := 15) rfl (by decide) rfl ?_
    refine y_ldc2_w (u := 28) (q := 18) rfl rfl rfl ?_
    refine y_callP (I := .invokestatic 91) (idx := 91) (KD := 0) (J := 128) (mj := mj118) (as := [.long v3.toInt64, .long 0, .long 28]) (r := []) (q := 21) rfl (fun _ _ _ _ _ _ => rfl) rfl (by decide) rfl rfl rfl rfl rfl (Nat.le_of_ble_eq_true rfl) rfl rfl (m_X7_in (Nat.le_trans (by decide) hd) (v3.toInt64) 0 28 h) (fun r4 => ?_)
    refine y_eq0 (q := 35) (q' := 24) rfl rfl rfl rfl (fun c5 => ?_) (fun c6 => ?_)
    · skip
      refine y_ldc2_w (u := (-4611686018427387904)) (q := 38) rfl rfl rfl ?_
      exact y_retL rfl rfl rfl
    · skip
      refine y_iload (q := 26) rfl rfl rfl ?_
      refine y_i2l (q := 27) rfl rfl ?_
      refine y_lconst (u := 0) (q := 28) rfl (by decide) rfl ?_
      refine y_lconst (u := 1) (q := 29) rfl (by decide) rfl ?_
      refine y_callP (I := .invokestatic 91) (idx := 91) (KD := 0) (J := 128) (mj := mj118) (as := [.long v4.toInt64, .long 0, .long 1]) (r := []) (q := 32) rfl (fun _ _ _ _ _ _ => rfl) rfl (by decide) rfl rfl rfl rfl rfl (Nat.le_of_ble_eq_true rfl) rfl rfl (m_X7_in (Nat.le_trans (by decide) hd) (v4.toInt64) 0 1 h) (fun r7 => ?_)
      refine y_ne0 (q := 39) (q' := 35) rfl rfl rfl rfl (fun c8 => ?_) (fun c9 => ?_)
      · skip
        refine y_ldc2_w (u := (-4611686018427387904)) (q := 38) rfl rfl rfl ?_
        exact y_retL rfl rfl rfl
      · skip
        refine y_lconst (u := 0) (q := 40) rfl (by decide) rfl ?_
        refine y_lstore (lo' := [some (.ref 0), some (.int v1), some (.int v2), some (.int v3), some (.int v4), some (.long 0), none, none, none, none, none, none, none]) (q := 42) rfl (Nat.le_of_ble_eq_true rfl) rfl rfl ?_
        refine y_iconst (x := 0) (q := 43) rfl (by decide) rfl ?_
        refine y_istore (lo' := [some (.ref 0), some (.int v1), some (.int v2), some (.int v3), some (.int v4), some (.long 0), none, some (.int 0), none, none, none, none, none]) (q := 45) rfl (Nat.le_of_ble_eq_true rfl) rfl rfl ?_
        refine lz_X7_chance_45 hd v1 v2 v3 v4 (none) (none) (none) (none) (none)  _ (fun v5_16 z17 g18 => ?_) fuel0 0 0 h 
        refine y_lload (q := 82) rfl rfl rfl ?_
        refine y_lstore (lo' := [some (.ref 0), some (.int v1), some (.int v2), some (.int v3), some (.int v4), some (.long v5_16), none, some (.long v5_16), none, none, none, none, none]) (q := 84) rfl (Nat.le_of_ble_eq_true rfl) rfl rfl ?_
        refine y_iload_n (q := 85) rfl rfl rfl ?_
        refine y_i2l (q := 86) rfl rfl ?_
        refine y_lstore (lo' := [some (.ref 0), some (.int v1), some (.int v2), some (.int v3), some (.int v4), some (.long v5_16), none, some (.long v5_16), none, some (.long v2.toInt64), none, none, none]) (q := 88) rfl (Nat.le_of_ble_eq_true rfl) rfl rfl ?_
        refine lz_X7_chance_88 hd v1 v2 v3 v4 v5_16 g18 _ (fun v7_22 z23 z24 z25 => ?_) fuel0 v5_16 (v2.toInt64)  (none) (none)
        refine y_iload (q := 115) rfl rfl rfl ?_
        refine y_ne0 (q := 126) (q' := 118) rfl rfl rfl rfl (fun c26 => ?_) (fun c27 => ?_)
        · skip
          refine y_lload (q := 120) rfl rfl rfl ?_
          refine y_lload (q := 122) rfl rfl rfl ?_
          refine y_guard (fun c28 => ?_)
          refine y_ldiv (q := 123) rfl c28 rfl ?_
          refine y_goto (q := 131) rfl rfl ?_
          exact y_retL rfl rfl rfl
        · skip
          refine y_iload_n (q := 127) rfl rfl rfl ?_
          refine y_i2l (q := 128) rfl rfl ?_
          refine y_lload (q := 130) rfl rfl rfl ?_
          refine y_guard (fun c29 => ?_)
          refine y_ldiv (q := 131) rfl c29 rfl ?_
          exact y_retL rfl rfl rfl
def l_X7_image_2  (k : dH → Option (Int32 × dH)) : Nat → Int32 → dH → Option (Int32 × dH)
  | 0, _, _ => none
  | n + 1, v1, h => if v1.toInt < 8 then (if 0 ≤ v1.toInt ∧ v1.toInt < 8 then (if 0 ≤ v1.toInt ∧ v1.toInt < 8 then (oH (dU h 11 (v1.toInt.toNat) (h 5 (v1.toInt.toNat))) (fun g4 => if 0 ≤ v1.toInt ∧ v1.toInt < 8 then (if 0 ≤ v1.toInt ∧ v1.toInt < 8 then (oH (dU g4 12 (v1.toInt.toNat) (g4 6 (v1.toInt.toNat))) (fun g7 => l_X7_image_2  k n (v1 + 1) g7)) else none) else none)) else none) else none) else (k  h)
theorem lz_X7_image_2 {d : Nat} (hd : 0 ≤ d)  (k : dH → Option (Int32 × dH)) (hk : ∀ (w1 : Int32) (h : dH), dY shM d mj223 dI (k h) 38 [some (.ref 0), some (.int w1)] [] h) : ∀ (n : Nat) (v1 : Int32) (h : dH), dY shM d mj223 dI (l_X7_image_2  k n v1 h) 2 [some (.ref 0), some (.int v1)] [] h
  | 0, _, _ => dY_none
  | n + 1, v1, h => by
    rw [l_X7_image_2]
    refine y_iload_n (q := 3) rfl rfl rfl ?_
    refine y_bipush (x := 8) (q := 5) rfl (by decide) rfl ?_
    refine y_ge (q := 38) (q' := 8) rfl rfl (by decide) rfl rfl (fun c1 => ?_) (fun c2 => ?_)
    · skip
      refine y_aload_n (q := 9) rfl rfl rfl ?_
      refine y_getR (b := 11) (q := 12) rfl rfl (by decide) atM0 rfl rfl ?_
      refine y_iload_n (q := 13) rfl rfl rfl ?_
      refine y_aload_n (q := 14) rfl rfl rfl ?_
      refine y_getR (b := 5) (q := 17) rfl rfl (by decide) atM0 rfl rfl ?_
      refine y_iload_n (q := 18) rfl rfl rfl ?_
      refine y_guard (fun c3 => ?_)
      refine y_iald (n := 8) (N := 8) (X := v1.toInt) (K := v1.toInt.toNat) (q := 19) hbM rfl atM5 rfl rfl c3 rfl rfl ?_
      refine y_guard (fun c5 => ?_)
      refine y_iast (n := 8) (N := 8) (X := v1.toInt) (K := v1.toInt.toNat) (q := 20) rfl atM11 rfl rfl c5 rfl rfl (fun g4 => ?_)
      refine y_aload_n (q := 21) rfl rfl rfl ?_
      refine y_getR (b := 12) (q := 24) rfl rfl (by decide) atM0 rfl rfl ?_
      refine y_iload_n (q := 25) rfl rfl rfl ?_
      refine y_aload_n (q := 26) rfl rfl rfl ?_
      refine y_getR (b := 6) (q := 29) rfl rfl (by decide) atM0 rfl rfl ?_
      refine y_iload_n (q := 30) rfl rfl rfl ?_
      refine y_guard (fun c6 => ?_)
      refine y_iald (n := 8) (N := 8) (X := v1.toInt) (K := v1.toInt.toNat) (q := 31) hbM rfl atM6 rfl rfl c6 rfl rfl ?_
      refine y_guard (fun c8 => ?_)
      refine y_iast (n := 8) (N := 8) (X := v1.toInt) (K := v1.toInt.toNat) (q := 32) rfl atM12 rfl rfl c8 rfl rfl (fun g7 => ?_)
      refine y_iinc (z := (v1 + 1)) (lo' := [some (.ref 0), some (.int (v1 + 1))]) (q := 35) rfl rfl (Nat.le_of_ble_eq_true rfl) (by rw [oi_1]) rfl rfl ?_
      refine y_goto (q := 2) rfl rfl ?_
      exact lz_X7_image_2 hd  k hk n (v1 + 1) g7 
    · skip
      exact hk  v1 h
def l_X7_image_40  (k : dH → Option (Int32 × dH)) : Nat → Int32 → dH → Option (Int32 × dH)
  | 0, _, _ => none
  | n + 1, v1, h => if v1.toInt < 64 then (if 0 ≤ v1.toInt ∧ v1.toInt < 64 then (if 0 ≤ v1.toInt ∧ v1.toInt < 64 then (oH (dU h 13 (v1.toInt.toNat) (h 7 (v1.toInt.toNat))) (fun g14 => l_X7_image_40  k n (v1 + 1) g14)) else none) else none) else (k  h)
theorem lz_X7_image_40 {d : Nat} (hd : 0 ≤ d)  (k : dH → Option (Int32 × dH)) (hk : ∀ (w1 : Int32) (h : dH), dY shM d mj223 dI (k h) 64 [some (.ref 0), some (.int w1)] [] h) : ∀ (n : Nat) (v1 : Int32) (h : dH), dY shM d mj223 dI (l_X7_image_40  k n v1 h) 40 [some (.ref 0), some (.int v1)] [] h
  | 0, _, _ => dY_none
  | n + 1, v1, h => by
    rw [l_X7_image_40]
    refine y_iload_n (q := 41) rfl rfl rfl ?_
    refine y_bipush (x := 64) (q := 43) rfl (by decide) rfl ?_
    refine y_ge (q := 64) (q' := 46) rfl rfl (by decide) rfl rfl (fun c11 => ?_) (fun c12 => ?_)
    · skip
      refine y_aload_n (q := 47) rfl rfl rfl ?_
      refine y_getR (b := 13) (q := 50) rfl rfl (by decide) atM0 rfl rfl ?_
      refine y_iload_n (q := 51) rfl rfl rfl ?_
      refine y_aload_n (q := 52) rfl rfl rfl ?_
      refine y_getR (b := 7) (q := 55) rfl rfl (by decide) atM0 rfl rfl ?_
      refine y_iload_n (q := 56) rfl rfl rfl ?_
      refine y_guard (fun c13 => ?_)
      refine y_iald (n := 64) (N := 64) (X := v1.toInt) (K := v1.toInt.toNat) (q := 57) hbM rfl atM7 rfl rfl c13 rfl rfl ?_
      refine y_guard (fun c15 => ?_)
      refine y_iast (n := 64) (N := 64) (X := v1.toInt) (K := v1.toInt.toNat) (q := 58) rfl atM13 rfl rfl c15 rfl rfl (fun g14 => ?_)
      refine y_iinc (z := (v1 + 1)) (lo' := [some (.ref 0), some (.int (v1 + 1))]) (q := 61) rfl rfl (Nat.le_of_ble_eq_true rfl) (by rw [oi_1]) rfl rfl ?_
      refine y_goto (q := 40) rfl rfl ?_
      exact lz_X7_image_40 hd  k hk n (v1 + 1) g14 
    · skip
      exact hk  v1 h
def f_X7_image  (h : dH) : Option (Int32 × dH) := l_X7_image_2   (fun g10 => l_X7_image_40   (fun g17 => oH (dU g17 0 39 (g17 0 13)) (fun g18 => oH (dU g18 0 40 (g18 0 7)) (fun g19 => oH (dU g19 0 41 (g19 0 8)) (fun g20 => oH (dU g20 0 42 (g20 0 4)) (fun g21 => some ((g21 0 13), g21)))))) fuel0 0 g10) fuel0 0 h
theorem m_X7_image {d : Nat} (hd : 1 ≤ d)  (h : dH) : dX shM d 223 [.ref 0] dI (f_X7_image  h) h := by
  obtain ⟨e, rfl⟩ : ∃ e, d = e + 1 := ⟨d - 1, by omega⟩
  have hd : 0 ≤ e := by omega
  refine dX_of (mj := mj223) (lo := [some (.ref 0), none]) rfl (Nat.le_of_ble_eq_true rfl) rfl ?_
  unfold f_X7_image
  refine y_iconst (x := 0) (q := 1) rfl (by decide) rfl ?_
  refine y_istore_n (lo' := [some (.ref 0), some (.int 0)]) (q := 2) rfl (Nat.le_of_ble_eq_true rfl) rfl rfl ?_
  refine lz_X7_image_2 hd   _ (fun z9 g10 => ?_) fuel0 0 h 
  refine y_iconst (x := 0) (q := 39) rfl (by decide) rfl ?_
  refine y_istore_n (lo' := [some (.ref 0), some (.int 0)]) (q := 40) rfl (Nat.le_of_ble_eq_true rfl) rfl rfl ?_
  refine lz_X7_image_40 hd   _ (fun z16 g17 => ?_) fuel0 0 g10 
  refine y_aload_n (q := 65) rfl rfl rfl ?_
  refine y_aload_n (q := 66) rfl rfl rfl ?_
  refine y_getI (q := 69) rfl rfl (by decide) atM0 rfl rfl ?_
  refine y_putI (q := 72) rfl rfl (by decide) atM0 rfl rfl rfl rfl (fun g18 => ?_)
  refine y_aload_n (q := 73) rfl rfl rfl ?_
  refine y_aload_n (q := 74) rfl rfl rfl ?_
  refine y_getI (q := 77) rfl rfl (by decide) atM0 rfl rfl ?_
  refine y_putI (q := 80) rfl rfl (by decide) atM0 rfl rfl rfl rfl (fun g19 => ?_)
  refine y_aload_n (q := 81) rfl rfl rfl ?_
  refine y_aload_n (q := 82) rfl rfl rfl ?_
  refine y_getI (q := 85) rfl rfl (by decide) atM0 rfl rfl ?_
  refine y_putI (q := 88) rfl rfl (by decide) atM0 rfl rfl rfl rfl (fun g20 => ?_)
  refine y_aload_n (q := 89) rfl rfl rfl ?_
  refine y_aload_n (q := 90) rfl rfl rfl ?_
  refine y_getI (q := 93) rfl rfl (by decide) atM0 rfl rfl ?_
  refine y_putI (q := 96) rfl rfl (by decide) atM0 rfl rfl rfl rfl (fun g21 => ?_)
  refine y_aload_n (q := 97) rfl rfl rfl ?_
  refine y_getI (q := 100) rfl rfl (by decide) atM0 rfl rfl ?_
  exact y_retI rfl (by decide) rfl rfl
def l_X7_back_13  (k : dH → Option (Int32 × dH)) : Nat → Int32 → dH → Option (Int32 × dH)
  | 0, _, _ => none
  | n + 1, v1, h => if v1.toInt < 8 then (if 0 ≤ v1.toInt ∧ v1.toInt < 8 then (if 0 ≤ v1.toInt ∧ v1.toInt < 8 then (oH (dU h 5 (v1.toInt.toNat) (h 11 (v1.toInt.toNat))) (fun g6 => if 0 ≤ v1.toInt ∧ v1.toInt < 8 then (if 0 ≤ v1.toInt ∧ v1.toInt < 8 then (oH (dU g6 6 (v1.toInt.toNat) (g6 12 (v1.toInt.toNat))) (fun g9 => l_X7_back_13  k n (v1 + 1) g9)) else none) else none)) else none) else none) else (k  h)
theorem lz_X7_back_13 {d : Nat} (hd : 0 ≤ d)  (k : dH → Option (Int32 × dH)) (hk : ∀ (w1 : Int32) (h : dH), dY shM d mj224 dI (k h) 49 [some (.ref 0), some (.int w1)] [] h) : ∀ (n : Nat) (v1 : Int32) (h : dH), dY shM d mj224 dI (l_X7_back_13  k n v1 h) 13 [some (.ref 0), some (.int v1)] [] h
  | 0, _, _ => dY_none
  | n + 1, v1, h => by
    rw [l_X7_back_13]
    refine y_iload_n (q := 14) rfl rfl rfl ?_
    refine y_bipush (x := 8) (q := 16) rfl (by decide) rfl ?_
    refine y_ge (q := 49) (q' := 19) rfl rfl (by decide) rfl rfl (fun c3 => ?_) (fun c4 => ?_)
    · skip
      refine y_aload_n (q := 20) rfl rfl rfl ?_
      refine y_getR (b := 5) (q := 23) rfl rfl (by decide) atM0 rfl rfl ?_
      refine y_iload_n (q := 24) rfl rfl rfl ?_
      refine y_aload_n (q := 25) rfl rfl rfl ?_
      refine y_getR (b := 11) (q := 28) rfl rfl (by decide) atM0 rfl rfl ?_
      refine y_iload_n (q := 29) rfl rfl rfl ?_
      refine y_guard (fun c5 => ?_)
      refine y_iald (n := 8) (N := 8) (X := v1.toInt) (K := v1.toInt.toNat) (q := 30) hbM rfl atM11 rfl rfl c5 rfl rfl ?_
      refine y_guard (fun c7 => ?_)
      refine y_iast (n := 8) (N := 8) (X := v1.toInt) (K := v1.toInt.toNat) (q := 31) rfl atM5 rfl rfl c7 rfl rfl (fun g6 => ?_)
      refine y_aload_n (q := 32) rfl rfl rfl ?_
      refine y_getR (b := 6) (q := 35) rfl rfl (by decide) atM0 rfl rfl ?_
      refine y_iload_n (q := 36) rfl rfl rfl ?_
      refine y_aload_n (q := 37) rfl rfl rfl ?_
      refine y_getR (b := 12) (q := 40) rfl rfl (by decide) atM0 rfl rfl ?_
      refine y_iload_n (q := 41) rfl rfl rfl ?_
      refine y_guard (fun c8 => ?_)
      refine y_iald (n := 8) (N := 8) (X := v1.toInt) (K := v1.toInt.toNat) (q := 42) hbM rfl atM12 rfl rfl c8 rfl rfl ?_
      refine y_guard (fun c10 => ?_)
      refine y_iast (n := 8) (N := 8) (X := v1.toInt) (K := v1.toInt.toNat) (q := 43) rfl atM6 rfl rfl c10 rfl rfl (fun g9 => ?_)
      refine y_iinc (z := (v1 + 1)) (lo' := [some (.ref 0), some (.int (v1 + 1))]) (q := 46) rfl rfl (Nat.le_of_ble_eq_true rfl) (by rw [oi_1]) rfl rfl ?_
      refine y_goto (q := 13) rfl rfl ?_
      exact lz_X7_back_13 hd  k hk n (v1 + 1) g9 
    · skip
      exact hk  v1 h
def l_X7_back_51  (k : dH → Option (Int32 × dH)) : Nat → Int32 → dH → Option (Int32 × dH)
  | 0, _, _ => none
  | n + 1, v1, h => if v1.toInt < 64 then (if 0 ≤ v1.toInt ∧ v1.toInt < 64 then (if 0 ≤ v1.toInt ∧ v1.toInt < 64 then (oH (dU h 7 (v1.toInt.toNat) (h 13 (v1.toInt.toNat))) (fun g16 => l_X7_back_51  k n (v1 + 1) g16)) else none) else none) else (k  h)
theorem lz_X7_back_51 {d : Nat} (hd : 0 ≤ d)  (k : dH → Option (Int32 × dH)) (hk : ∀ (w1 : Int32) (h : dH), dY shM d mj224 dI (k h) 75 [some (.ref 0), some (.int w1)] [] h) : ∀ (n : Nat) (v1 : Int32) (h : dH), dY shM d mj224 dI (l_X7_back_51  k n v1 h) 51 [some (.ref 0), some (.int v1)] [] h
  | 0, _, _ => dY_none
  | n + 1, v1, h => by
    rw [l_X7_back_51]
    refine y_iload_n (q := 52) rfl rfl rfl ?_
    refine y_bipush (x := 64) (q := 54) rfl (by decide) rfl ?_
    refine y_ge (q := 75) (q' := 57) rfl rfl (by decide) rfl rfl (fun c13 => ?_) (fun c14 => ?_)
    · skip
      refine y_aload_n (q := 58) rfl rfl rfl ?_
      refine y_getR (b := 7) (q := 61) rfl rfl (by decide) atM0 rfl rfl ?_
      refine y_iload_n (q := 62) rfl rfl rfl ?_
      refine y_aload_n (q := 63) rfl rfl rfl ?_
      refine y_getR (b := 13) (q := 66) rfl rfl (by decide) atM0 rfl rfl ?_
      refine y_iload_n (q := 67) rfl rfl rfl ?_
      refine y_guard (fun c15 => ?_)
      refine y_iald (n := 64) (N := 64) (X := v1.toInt) (K := v1.toInt.toNat) (q := 68) hbM rfl atM13 rfl rfl c15 rfl rfl ?_
      refine y_guard (fun c17 => ?_)
      refine y_iast (n := 64) (N := 64) (X := v1.toInt) (K := v1.toInt.toNat) (q := 69) rfl atM7 rfl rfl c17 rfl rfl (fun g16 => ?_)
      refine y_iinc (z := (v1 + 1)) (lo' := [some (.ref 0), some (.int (v1 + 1))]) (q := 72) rfl rfl (Nat.le_of_ble_eq_true rfl) (by rw [oi_1]) rfl rfl ?_
      refine y_goto (q := 51) rfl rfl ?_
      exact lz_X7_back_51 hd  k hk n (v1 + 1) g16 
    · skip
      exact hk  v1 h
def f_X7_back  (h : dH) : Option (Int32 × dH) := if (h 0 39).toInt = (-1) then (some ((-3), h)) else (l_X7_back_13   (fun g12 => l_X7_back_51   (fun g19 => oH (dU g19 0 13 (g19 0 39)) (fun g20 => oH (dU g20 0 7 (g20 0 40)) (fun g21 => oH (dU g21 0 8 (g21 0 41)) (fun g22 => oH (dU g22 0 4 (g22 0 42)) (fun g23 => some ((g23 0 13), g23)))))) fuel0 0 g12) fuel0 0 h)
theorem m_X7_back {d : Nat} (hd : 1 ≤ d)  (h : dH) : dX shM d 224 [.ref 0] dI (f_X7_back  h) h := by
  obtain ⟨e, rfl⟩ : ∃ e, d = e + 1 := ⟨d - 1, by omega⟩
  have hd : 0 ≤ e := by omega
  refine dX_of (mj := mj224) (lo := [some (.ref 0), none]) rfl (Nat.le_of_ble_eq_true rfl) rfl ?_
  unfold f_X7_back
  refine y_aload_n (q := 1) rfl rfl rfl ?_
  refine y_getI (q := 4) rfl rfl (by decide) atM0 rfl rfl ?_
  refine y_iconst (x := (-1)) (q := 5) rfl (by decide) rfl ?_
  refine y_ne (q := 11) (q' := 8) rfl rfl (by decide) rfl rfl (fun c1 => ?_) (fun c2 => ?_)
  · skip
    refine y_bipush (x := (-3)) (q := 10) rfl (by decide) rfl ?_
    exact y_retI rfl (by decide) rfl rfl
  · skip
    refine y_iconst (x := 0) (q := 12) rfl (by decide) rfl ?_
    refine y_istore_n (lo' := [some (.ref 0), some (.int 0)]) (q := 13) rfl (Nat.le_of_ble_eq_true rfl) rfl rfl ?_
    refine lz_X7_back_13 hd   _ (fun z11 g12 => ?_) fuel0 0 h 
    refine y_iconst (x := 0) (q := 50) rfl (by decide) rfl ?_
    refine y_istore_n (lo' := [some (.ref 0), some (.int 0)]) (q := 51) rfl (Nat.le_of_ble_eq_true rfl) rfl rfl ?_
    refine lz_X7_back_51 hd   _ (fun z18 g19 => ?_) fuel0 0 g12 
    refine y_aload_n (q := 76) rfl rfl rfl ?_
    refine y_aload_n (q := 77) rfl rfl rfl ?_
    refine y_getI (q := 80) rfl rfl (by decide) atM0 rfl rfl ?_
    refine y_putI (q := 83) rfl rfl (by decide) atM0 rfl rfl rfl rfl (fun g20 => ?_)
    refine y_aload_n (q := 84) rfl rfl rfl ?_
    refine y_aload_n (q := 85) rfl rfl rfl ?_
    refine y_getI (q := 88) rfl rfl (by decide) atM0 rfl rfl ?_
    refine y_putI (q := 91) rfl rfl (by decide) atM0 rfl rfl rfl rfl (fun g21 => ?_)
    refine y_aload_n (q := 92) rfl rfl rfl ?_
    refine y_aload_n (q := 93) rfl rfl rfl ?_
    refine y_getI (q := 96) rfl rfl (by decide) atM0 rfl rfl ?_
    refine y_putI (q := 99) rfl rfl (by decide) atM0 rfl rfl rfl rfl (fun g22 => ?_)
    refine y_aload_n (q := 100) rfl rfl rfl ?_
    refine y_aload_n (q := 101) rfl rfl rfl ?_
    refine y_getI (q := 104) rfl rfl (by decide) atM0 rfl rfl ?_
    refine y_putI (q := 107) rfl rfl (by decide) atM0 rfl rfl rfl rfl (fun g23 => ?_)
    refine y_aload_n (q := 108) rfl rfl rfl ?_
    refine y_getI (q := 111) rfl rfl (by decide) atM0 rfl rfl ?_
    exact y_retI rfl (by decide) rfl rfl
def l_X7_count_65 (v1 : Int32) (h : dH) (k : Int32 → Option (Int32)) : Nat → Int32 → Int32 → Option (Int32)
  | 0, _, _ => none
  | n + 1, v2, v3 => if v3.toInt < (h 0 13).toInt then (if v1.toInt = 0 then (l_X7_count_65 v1 h k n (v2 + 1) (v3 + 1) ) else (if 0 ≤ v3.toInt ∧ v3.toInt < 8 then (if (h 6 (v3.toInt.toNat)).toInt = (-1) then (l_X7_count_65 v1 h k n (v2 + 0) (v3 + 1) ) else (l_X7_count_65 v1 h k n (v2 + 1) (v3 + 1) )) else none)) else (k v2 )
theorem lz_X7_count_65 {d : Nat} (hd : 1 ≤ d) (v1 : Int32) (h : dH) (k : Int32 → Option (Int32)) (hk : ∀ (v2 : Int32) (w3 : Int32), dY shM d mj225 (dP h) (k v2) 101 [some (.ref 0), some (.int v1), some (.int v2), some (.int w3)] [] h) : ∀ (n : Nat) (v2 : Int32) (v3 : Int32), dY shM d mj225 (dP h) (l_X7_count_65 v1 h k n v2 v3) 65 [some (.ref 0), some (.int v1), some (.int v2), some (.int v3)] [] h
  | 0, _, _ => dY_none
  | n + 1, v2, v3 => by
    rw [l_X7_count_65]
    refine y_iload_n (q := 66) rfl rfl rfl ?_
    refine y_aload_n (q := 67) rfl rfl rfl ?_
    refine y_getI (q := 70) rfl rfl (by decide) atM0 rfl rfl ?_
    refine y_ge (q := 101) (q' := 73) rfl rfl rfl rfl rfl (fun c12 => ?_) (fun c13 => ?_)
    · skip
      refine y_iload_n (q := 74) rfl rfl rfl ?_
      refine y_iload_n (q := 75) rfl rfl rfl ?_
      refine y_eq0 (q := 88) (q' := 78) rfl rfl rfl rfl (fun c14 => ?_) (fun c15 => ?_)
      · skip
        refine y_iconst (x := 1) (q := 89) rfl (by decide) rfl ?_
        refine y_goto (q := 93) rfl rfl ?_
        refine y_iadd (q := 94) rfl rfl ?_
        refine y_istore_n (lo' := [some (.ref 0), some (.int v1), some (.int (v2 + 1)), some (.int v3)]) (q := 95) rfl (Nat.le_of_ble_eq_true rfl) rfl rfl ?_
        refine y_iinc (z := (v3 + 1)) (lo' := [some (.ref 0), some (.int v1), some (.int (v2 + 1)), some (.int (v3 + 1))]) (q := 98) rfl rfl (Nat.le_of_ble_eq_true rfl) (by rw [oi_1]) rfl rfl ?_
        refine y_goto (q := 65) rfl rfl ?_
        exact lz_X7_count_65 hd v1 h k hk n (v2 + 1) (v3 + 1)  
      · skip
        refine y_aload_n (q := 79) rfl rfl rfl ?_
        refine y_getR (b := 6) (q := 82) rfl rfl (by decide) atM0 rfl rfl ?_
        refine y_iload_n (q := 83) rfl rfl rfl ?_
        refine y_guard (fun c16 => ?_)
        refine y_iald (n := 8) (N := 8) (X := v3.toInt) (K := v3.toInt.toNat) (q := 84) hbM rfl atM6 rfl rfl c16 rfl rfl ?_
        refine y_iconst (x := (-1)) (q := 85) rfl (by decide) rfl ?_
        refine y_eq (q := 92) (q' := 88) rfl rfl (by decide) rfl rfl (fun c17 => ?_) (fun c18 => ?_)
        · skip
          refine y_iconst (x := 0) (q := 93) rfl (by decide) rfl ?_
          refine y_iadd (q := 94) rfl rfl ?_
          refine y_istore_n (lo' := [some (.ref 0), some (.int v1), some (.int (v2 + 0)), some (.int v3)]) (q := 95) rfl (Nat.le_of_ble_eq_true rfl) rfl rfl ?_
          refine y_iinc (z := (v3 + 1)) (lo' := [some (.ref 0), some (.int v1), some (.int (v2 + 0)), some (.int (v3 + 1))]) (q := 98) rfl rfl (Nat.le_of_ble_eq_true rfl) (by rw [oi_1]) rfl rfl ?_
          refine y_goto (q := 65) rfl rfl ?_
          exact lz_X7_count_65 hd v1 h k hk n (v2 + 0) (v3 + 1)  
        · skip
          refine y_iconst (x := 1) (q := 89) rfl (by decide) rfl ?_
          refine y_goto (q := 93) rfl rfl ?_
          refine y_iadd (q := 94) rfl rfl ?_
          refine y_istore_n (lo' := [some (.ref 0), some (.int v1), some (.int (v2 + 1)), some (.int v3)]) (q := 95) rfl (Nat.le_of_ble_eq_true rfl) rfl rfl ?_
          refine y_iinc (z := (v3 + 1)) (lo' := [some (.ref 0), some (.int v1), some (.int (v2 + 1)), some (.int (v3 + 1))]) (q := 98) rfl rfl (Nat.le_of_ble_eq_true rfl) (by rw [oi_1]) rfl rfl ?_
          refine y_goto (q := 65) rfl rfl ?_
          exact lz_X7_count_65 hd v1 h k hk n (v2 + 1) (v3 + 1)  
    · skip
      exact hk v2 v3 
def f_X7_count (v1 : Int32) (h : dH) : Option (Int32) := oP (f_X7_in (v1.toInt64) 0 5) (fun r1 => if r1.toInt = 0 then ((some (-2))) else (if 1 < v1.toInt then (if v1.toInt = 2 then ((some (h 0 7))) else (if v1.toInt = 3 then ((some (h 0 3))) else (if v1.toInt = 4 then ((some (h 0 6))) else ((some (h 0 4)))))) else (l_X7_count_65 v1 h (fun v2_19 => (some v2_19)) fuel0 0 0 )))
theorem m_X7_count {d : Nat} (hd : 2 ≤ d) (v1 : Int32) (h : dH) : dX shM d 225 [.ref 0, .int v1] (dP h) (f_X7_count v1 h) h := by
  obtain ⟨e, rfl⟩ : ∃ e, d = e + 1 := ⟨d - 1, by omega⟩
  have hd : 1 ≤ e := by omega
  refine dX_of (mj := mj225) (lo := [some (.ref 0), some (.int v1), none, none]) rfl (Nat.le_of_ble_eq_true rfl) rfl ?_
  unfold f_X7_count
  refine y_iload_n (q := 1) rfl rfl rfl ?_
  refine y_i2l (q := 2) rfl rfl ?_
  refine y_lconst (u := 0) (q := 3) rfl (by decide) rfl ?_
  refine y_ldc2_w (u := 5) (q := 6) rfl rfl rfl ?_
  refine y_callP (I := .invokestatic 91) (idx := 91) (KD := 0) (J := 128) (mj := mj118) (as := [.long v1.toInt64, .long 0, .long 5]) (r := []) (q := 9) rfl (fun _ _ _ _ _ _ => rfl) rfl (by decide) rfl rfl rfl rfl rfl (Nat.le_of_ble_eq_true rfl) rfl rfl (m_X7_in (Nat.le_trans (by decide) hd) (v1.toInt64) 0 5 h) (fun r1 => ?_)
  refine y_ne0 (q := 15) (q' := 12) rfl rfl rfl rfl (fun c2 => ?_) (fun c3 => ?_)
  · skip
    refine y_bipush (x := (-2)) (q := 14) rfl (by decide) rfl ?_
    exact y_retP rfl (by decide) rfl rfl
  · skip
    refine y_iload_n (q := 16) rfl rfl rfl ?_
    refine y_iconst (x := 1) (q := 17) rfl (by decide) rfl ?_
    refine y_le (q := 61) (q' := 20) rfl rfl (by decide) rfl rfl (fun c4 => ?_) (fun c5 => ?_)
    · skip
      refine y_iload_n (q := 21) rfl rfl rfl ?_
      refine y_iconst (x := 2) (q := 22) rfl (by decide) rfl ?_
      refine y_ne (q := 32) (q' := 25) rfl rfl (by decide) rfl rfl (fun c6 => ?_) (fun c7 => ?_)
      · skip
        refine y_aload_n (q := 26) rfl rfl rfl ?_
        refine y_getI (q := 29) rfl rfl (by decide) atM0 rfl rfl ?_
        refine y_goto (q := 60) rfl rfl ?_
        exact y_retP rfl (by decide) rfl rfl
      · skip
        refine y_iload_n (q := 33) rfl rfl rfl ?_
        refine y_iconst (x := 3) (q := 34) rfl (by decide) rfl ?_
        refine y_ne (q := 44) (q' := 37) rfl rfl (by decide) rfl rfl (fun c8 => ?_) (fun c9 => ?_)
        · skip
          refine y_aload_n (q := 38) rfl rfl rfl ?_
          refine y_getI (q := 41) rfl rfl (by decide) atM0 rfl rfl ?_
          refine y_goto (q := 60) rfl rfl ?_
          exact y_retP rfl (by decide) rfl rfl
        · skip
          refine y_iload_n (q := 45) rfl rfl rfl ?_
          refine y_iconst (x := 4) (q := 46) rfl (by decide) rfl ?_
          refine y_ne (q := 56) (q' := 49) rfl rfl (by decide) rfl rfl (fun c10 => ?_) (fun c11 => ?_)
          · skip
            refine y_aload_n (q := 50) rfl rfl rfl ?_
            refine y_getI (q := 53) rfl rfl (by decide) atM0 rfl rfl ?_
            refine y_goto (q := 60) rfl rfl ?_
            exact y_retP rfl (by decide) rfl rfl
          · skip
            refine y_aload_n (q := 57) rfl rfl rfl ?_
            refine y_getI (q := 60) rfl rfl (by decide) atM0 rfl rfl ?_
            exact y_retP rfl (by decide) rfl rfl
    · skip
      refine y_iconst (x := 0) (q := 62) rfl (by decide) rfl ?_
      refine y_istore_n (lo' := [some (.ref 0), some (.int v1), some (.int 0), none]) (q := 63) rfl (Nat.le_of_ble_eq_true rfl) rfl rfl ?_
      refine y_iconst (x := 0) (q := 64) rfl (by decide) rfl ?_
      refine y_istore_n (lo' := [some (.ref 0), some (.int v1), some (.int 0), some (.int 0)]) (q := 65) rfl (Nat.le_of_ble_eq_true rfl) rfl rfl ?_
      refine lz_X7_count_65 hd v1 h _ (fun v2_19 z20 => ?_) fuel0 0 0  
      refine y_iload_n (q := 102) rfl rfl rfl ?_
      exact y_retP rfl (by decide) rfl rfl
def f_X7_cell (v1 : Int32) (v2 : Int32) (v3 : Int32) (h : dH) : Option (Int32 × dH) := oP (f_X7_isSheet v1) (fun r1 => if r1.toInt = 0 then (some ((-2), h)) else (if 0 ≤ v1.toInt ∧ v1.toInt < 4 then (if (h 14 (v1.toInt.toNat)).toInt = 0 then (some ((-11), h)) else (if 0 ≤ v1.toInt ∧ v1.toInt < 4 then (oP (f_X7_in (v2.toInt64) 0 (((h 16 (v1.toInt.toNat)) - 1).toInt64)) (fun r8 => if r8.toInt = 0 then (some ((-12), h)) else (if 0 ≤ v1.toInt ∧ v1.toInt < 4 then (if (h 15 (v1.toInt.toNat)).toInt = 0 then (if 0 ≤ ((40 * v1) + v2).toInt ∧ ((40 * v1) + v2).toInt < 160 then (oH (dU h 17 (((40 * v1) + v2).toInt.toNat) v3.toInt8.toInt32) (fun g14 => some (1, g14))) else none) else (if 0 ≤ v1.toInt ∧ v1.toInt < 4 then (if (h 15 (v1.toInt.toNat)).toInt = 1 then (if 0 ≤ ((40 * v1) + v2).toInt ∧ ((40 * v1) + v2).toInt < 160 then (oH (dU h 17 (((40 * v1) + v2).toInt.toNat) v3.toInt16.toInt32) (fun g19 => some (1, g19))) else none) else (if 0 ≤ ((40 * v1) + v2).toInt ∧ ((40 * v1) + v2).toInt < 160 then (oH (dU h 17 (((40 * v1) + v2).toInt.toNat) v3) (fun g21 => some (1, g21))) else none)) else none)) else none))) else none)) else none))
theorem m_X7_cell {d : Nat} (hd : 3 ≤ d) (v1 : Int32) (v2 : Int32) (v3 : Int32) (h : dH) : dX shM d 228 [.ref 0, .int v1, .int v2, .int v3] dI (f_X7_cell v1 v2 v3 h) h := by
  obtain ⟨e, rfl⟩ : ∃ e, d = e + 1 := ⟨d - 1, by omega⟩
  have hd : 2 ≤ e := by omega
  refine dX_of (mj := mj228) (lo := [some (.ref 0), some (.int v1), some (.int v2), some (.int v3)]) rfl (Nat.le_of_ble_eq_true rfl) rfl ?_
  unfold f_X7_cell
  refine y_iload_n (q := 1) rfl rfl rfl ?_
  refine y_callP (I := .invokestatic 436) (idx := 436) (KD := 0) (J := 236) (mj := mj226) (as := [.int v1]) (r := []) (q := 4) rfl (fun _ _ _ _ _ _ => rfl) rfl (by decide) rfl rfl rfl rfl rfl (Nat.le_of_ble_eq_true rfl) rfl rfl (m_X7_isSheet (Nat.le_trans (by decide) hd) v1 h) (fun r1 => ?_)
  refine y_ne0 (q := 10) (q' := 7) rfl rfl rfl rfl (fun c2 => ?_) (fun c3 => ?_)
  · skip
    refine y_bipush (x := (-2)) (q := 9) rfl (by decide) rfl ?_
    exact y_retI rfl (by decide) rfl rfl
  · skip
    refine y_aload_n (q := 11) rfl rfl rfl ?_
    refine y_getR (b := 14) (q := 14) rfl rfl (by decide) atM0 rfl rfl ?_
    refine y_iload_n (q := 15) rfl rfl rfl ?_
    refine y_guard (fun c4 => ?_)
    refine y_bald (n := 4) (N := 4) (X := v1.toInt) (K := v1.toInt.toNat) (q := 16) hbM rfl atM14 rfl rfl c4 rfl rfl ?_
    refine y_ne0 (q := 22) (q' := 19) rfl rfl rfl rfl (fun c5 => ?_) (fun c6 => ?_)
    · skip
      refine y_bipush (x := (-11)) (q := 21) rfl (by decide) rfl ?_
      exact y_retI rfl (by decide) rfl rfl
    · skip
      refine y_iload_n (q := 23) rfl rfl rfl ?_
      refine y_i2l (q := 24) rfl rfl ?_
      refine y_lconst (u := 0) (q := 25) rfl (by decide) rfl ?_
      refine y_aload_n (q := 26) rfl rfl rfl ?_
      refine y_getR (b := 16) (q := 29) rfl rfl (by decide) atM0 rfl rfl ?_
      refine y_iload_n (q := 30) rfl rfl rfl ?_
      refine y_guard (fun c7 => ?_)
      refine y_iald (n := 4) (N := 4) (X := v1.toInt) (K := v1.toInt.toNat) (q := 31) hbM rfl atM16 rfl rfl c7 rfl rfl ?_
      refine y_iconst (x := 1) (q := 32) rfl (by decide) rfl ?_
      refine y_isub (q := 33) rfl rfl ?_
      refine y_i2l (q := 34) rfl rfl ?_
      refine y_callP (I := .invokestatic 91) (idx := 91) (KD := 0) (J := 128) (mj := mj118) (as := [.long v2.toInt64, .long 0, .long ((h 16 (v1.toInt.toNat)) - 1).toInt64]) (r := []) (q := 37) rfl (fun _ _ _ _ _ _ => rfl) rfl (by decide) rfl rfl rfl rfl rfl (Nat.le_of_ble_eq_true rfl) rfl rfl (m_X7_in (Nat.le_trans (by decide) hd) (v2.toInt64) 0 (((h 16 (v1.toInt.toNat)) - 1).toInt64) h) (fun r8 => ?_)
      refine y_ne0 (q := 43) (q' := 40) rfl rfl rfl rfl (fun c9 => ?_) (fun c10 => ?_)
      · skip
        refine y_bipush (x := (-12)) (q := 42) rfl (by decide) rfl ?_
        exact y_retI rfl (by decide) rfl rfl
      · skip
        refine y_aload_n (q := 44) rfl rfl rfl ?_
        refine y_getR (b := 17) (q := 47) rfl rfl (by decide) atM0 rfl rfl ?_
        refine y_bipush (x := 40) (q := 49) rfl (by decide) rfl ?_
        refine y_iload_n (q := 50) rfl rfl rfl ?_
        refine y_imul (q := 51) rfl rfl ?_
        refine y_iload_n (q := 52) rfl rfl rfl ?_
        refine y_iadd (q := 53) rfl rfl ?_
        refine y_aload_n (q := 54) rfl rfl rfl ?_
        refine y_getR (b := 15) (q := 57) rfl rfl (by decide) atM0 rfl rfl ?_
        refine y_iload_n (q := 58) rfl rfl rfl ?_
        refine y_guard (fun c11 => ?_)
        refine y_iald (n := 4) (N := 4) (X := v1.toInt) (K := v1.toInt.toNat) (q := 59) hbM rfl atM15 rfl rfl c11 rfl rfl ?_
        refine y_ne0 (q := 67) (q' := 62) rfl rfl rfl rfl (fun c12 => ?_) (fun c13 => ?_)
        · skip
          refine y_iload_n (q := 63) rfl rfl rfl ?_
          refine y_i2b (q := 64) rfl rfl ?_
          refine y_goto (q := 83) rfl rfl ?_
          refine y_guard (fun c15 => ?_)
          refine y_iast (n := 160) (N := 160) (X := ((40 * v1) + v2).toInt) (K := ((40 * v1) + v2).toInt.toNat) (q := 84) rfl atM17 rfl rfl c15 rfl rfl (fun g14 => ?_)
          refine y_iconst (x := 1) (q := 85) rfl (by decide) rfl ?_
          exact y_retI rfl (by decide) rfl rfl
        · skip
          refine y_aload_n (q := 68) rfl rfl rfl ?_
          refine y_getR (b := 15) (q := 71) rfl rfl (by decide) atM0 rfl rfl ?_
          refine y_iload_n (q := 72) rfl rfl rfl ?_
          refine y_guard (fun c16 => ?_)
          refine y_iald (n := 4) (N := 4) (X := v1.toInt) (K := v1.toInt.toNat) (q := 73) hbM rfl atM15 rfl rfl c16 rfl rfl ?_
          refine y_iconst (x := 1) (q := 74) rfl (by decide) rfl ?_
          refine y_ne (q := 82) (q' := 77) rfl rfl (by decide) rfl rfl (fun c17 => ?_) (fun c18 => ?_)
          · skip
            refine y_iload_n (q := 78) rfl rfl rfl ?_
            refine y_i2s (q := 79) rfl rfl ?_
            refine y_goto (q := 83) rfl rfl ?_
            refine y_guard (fun c20 => ?_)
            refine y_iast (n := 160) (N := 160) (X := ((40 * v1) + v2).toInt) (K := ((40 * v1) + v2).toInt.toNat) (q := 84) rfl atM17 rfl rfl c20 rfl rfl (fun g19 => ?_)
            refine y_iconst (x := 1) (q := 85) rfl (by decide) rfl ?_
            exact y_retI rfl (by decide) rfl rfl
          · skip
            refine y_iload_n (q := 83) rfl rfl rfl ?_
            refine y_guard (fun c22 => ?_)
            refine y_iast (n := 160) (N := 160) (X := ((40 * v1) + v2).toInt) (K := ((40 * v1) + v2).toInt.toNat) (q := 84) rfl atM17 rfl rfl c22 rfl rfl (fun g21 => ?_)
            refine y_iconst (x := 1) (q := 85) rfl (by decide) rfl ?_
            exact y_retI rfl (by decide) rfl rfl
def l_X7_copy_121 (v1 : Int32) (v2 : Int32) (v3 : Int32) (v4 : Int32) (v5 : Int32) (v6 : Int32) (k : dH → Option (Int32 × dH)) : Nat → Int32 → dH → Option (Int32 × dH)
  | 0, _, _ => none
  | n + 1, v7, h => if v7.toInt < v5.toInt then (if v6.toInt = 0 then (if 0 ≤ (((40 * v1) + v2) + v7).toInt ∧ (((40 * v1) + v2) + v7).toInt < 160 then (if 0 ≤ (((40 * v3) + v4) + v7).toInt ∧ (((40 * v3) + v4) + v7).toInt < 160 then (oH (dU h 17 ((((40 * v3) + v4) + v7).toInt.toNat) (h 17 ((((40 * v1) + v2) + v7).toInt.toNat))) (fun g38 => l_X7_copy_121 v1 v2 v3 v4 v5 v6 k n (v7 + 1) g38)) else none) else none) else (if 0 ≤ (((40 * v1) + v2) + ((v5 - 1) - v7)).toInt ∧ (((40 * v1) + v2) + ((v5 - 1) - v7)).toInt < 160 then (if 0 ≤ (((40 * v3) + v4) + ((v5 - 1) - v7)).toInt ∧ (((40 * v3) + v4) + ((v5 - 1) - v7)).toInt < 160 then (oH (dU h 17 ((((40 * v3) + v4) + ((v5 - 1) - v7)).toInt.toNat) (h 17 ((((40 * v1) + v2) + ((v5 - 1) - v7)).toInt.toNat))) (fun g41 => l_X7_copy_121 v1 v2 v3 v4 v5 v6 k n (v7 + 1) g41)) else none) else none)) else (k  h)
theorem lz_X7_copy_121 {d : Nat} (hd : 2 ≤ d) (v1 : Int32) (v2 : Int32) (v3 : Int32) (v4 : Int32) (v5 : Int32) (v6 : Int32) (k : dH → Option (Int32 × dH)) (hk : ∀ (w7 : Int32) (z8 : Option Value) (h : dH), dY shM d mj229 dI (k h) 182 [some (.ref 0), some (.int v1), some (.int v2), some (.int v3), some (.int v4), some (.int v5), some (.int v6), some (.int w7), z8] [] h) : ∀ (n : Nat) (v7 : Int32) (h : dH) (z8 : Option Value), dY shM d mj229 dI (l_X7_copy_121 v1 v2 v3 v4 v5 v6 k n v7 h) 121 [some (.ref 0), some (.int v1), some (.int v2), some (.int v3), some (.int v4), some (.int v5), some (.int v6), some (.int v7), z8] [] h
  | 0, _, _, _ => dY_none
  | n + 1, v7, h, z8 => by
    rw [l_X7_copy_121]
    refine y_iload (q := 123) rfl rfl rfl ?_
    refine y_iload (q := 125) rfl rfl rfl ?_
    refine y_ge (q := 182) (q' := 128) rfl rfl rfl rfl rfl (fun c33 => ?_) (fun c34 => ?_)
    · skip
      refine y_iload (q := 130) rfl rfl rfl ?_
      refine y_eq0 (q := 143) (q' := 133) rfl rfl rfl rfl (fun c35 => ?_) (fun c36 => ?_)
      · skip
        refine y_iload (q := 145) rfl rfl rfl ?_
        refine y_istore (lo' := [some (.ref 0), some (.int v1), some (.int v2), some (.int v3), some (.int v4), some (.int v5), some (.int v6), some (.int v7), some (.int v7)]) (q := 147) rfl (Nat.le_of_ble_eq_true rfl) rfl rfl ?_
        refine y_aload_n (q := 148) rfl rfl rfl ?_
        refine y_getR (b := 17) (q := 151) rfl rfl (by decide) atM0 rfl rfl ?_
        refine y_bipush (x := 40) (q := 153) rfl (by decide) rfl ?_
        refine y_iload_n (q := 154) rfl rfl rfl ?_
        refine y_imul (q := 155) rfl rfl ?_
        refine y_iload (q := 157) rfl rfl rfl ?_
        refine y_iadd (q := 158) rfl rfl ?_
        refine y_iload (q := 160) rfl rfl rfl ?_
        refine y_iadd (q := 161) rfl rfl ?_
        refine y_aload_n (q := 162) rfl rfl rfl ?_
        refine y_getR (b := 17) (q := 165) rfl rfl (by decide) atM0 rfl rfl ?_
        refine y_bipush (x := 40) (q := 167) rfl (by decide) rfl ?_
        refine y_iload_n (q := 168) rfl rfl rfl ?_
        refine y_imul (q := 169) rfl rfl ?_
        refine y_iload_n (q := 170) rfl rfl rfl ?_
        refine y_iadd (q := 171) rfl rfl ?_
        refine y_iload (q := 173) rfl rfl rfl ?_
        refine y_iadd (q := 174) rfl rfl ?_
        refine y_guard (fun c37 => ?_)
        refine y_iald (n := 160) (N := 160) (X := (((40 * v1) + v2) + v7).toInt) (K := (((40 * v1) + v2) + v7).toInt.toNat) (q := 175) hbM rfl atM17 rfl rfl c37 rfl rfl ?_
        refine y_guard (fun c39 => ?_)
        refine y_iast (n := 160) (N := 160) (X := (((40 * v3) + v4) + v7).toInt) (K := (((40 * v3) + v4) + v7).toInt.toNat) (q := 176) rfl atM17 rfl rfl c39 rfl rfl (fun g38 => ?_)
        refine y_iinc (z := (v7 + 1)) (lo' := [some (.ref 0), some (.int v1), some (.int v2), some (.int v3), some (.int v4), some (.int v5), some (.int v6), some (.int (v7 + 1)), some (.int v7)]) (q := 179) rfl rfl (Nat.le_of_ble_eq_true rfl) (by rw [oi_1]) rfl rfl ?_
        refine y_goto (q := 121) rfl rfl ?_
        exact lz_X7_copy_121 hd v1 v2 v3 v4 v5 v6 k hk n (v7 + 1) g38 (some (.int v7))
      · skip
        refine y_iload (q := 135) rfl rfl rfl ?_
        refine y_iconst (x := 1) (q := 136) rfl (by decide) rfl ?_
        refine y_isub (q := 137) rfl rfl ?_
        refine y_iload (q := 139) rfl rfl rfl ?_
        refine y_isub (q := 140) rfl rfl ?_
        refine y_goto (q := 145) rfl rfl ?_
        refine y_istore (lo' := [some (.ref 0), some (.int v1), some (.int v2), some (.int v3), some (.int v4), some (.int v5), some (.int v6), some (.int v7), some (.int ((v5 - 1) - v7))]) (q := 147) rfl (Nat.le_of_ble_eq_true rfl) rfl rfl ?_
        refine y_aload_n (q := 148) rfl rfl rfl ?_
        refine y_getR (b := 17) (q := 151) rfl rfl (by decide) atM0 rfl rfl ?_
        refine y_bipush (x := 40) (q := 153) rfl (by decide) rfl ?_
        refine y_iload_n (q := 154) rfl rfl rfl ?_
        refine y_imul (q := 155) rfl rfl ?_
        refine y_iload (q := 157) rfl rfl rfl ?_
        refine y_iadd (q := 158) rfl rfl ?_
        refine y_iload (q := 160) rfl rfl rfl ?_
        refine y_iadd (q := 161) rfl rfl ?_
        refine y_aload_n (q := 162) rfl rfl rfl ?_
        refine y_getR (b := 17) (q := 165) rfl rfl (by decide) atM0 rfl rfl ?_
        refine y_bipush (x := 40) (q := 167) rfl (by decide) rfl ?_
        refine y_iload_n (q := 168) rfl rfl rfl ?_
        refine y_imul (q := 169) rfl rfl ?_
        refine y_iload_n (q := 170) rfl rfl rfl ?_
        refine y_iadd (q := 171) rfl rfl ?_
        refine y_iload (q := 173) rfl rfl rfl ?_
        refine y_iadd (q := 174) rfl rfl ?_
        refine y_guard (fun c40 => ?_)
        refine y_iald (n := 160) (N := 160) (X := (((40 * v1) + v2) + ((v5 - 1) - v7)).toInt) (K := (((40 * v1) + v2) + ((v5 - 1) - v7)).toInt.toNat) (q := 175) hbM rfl atM17 rfl rfl c40 rfl rfl ?_
        refine y_guard (fun c42 => ?_)
        refine y_iast (n := 160) (N := 160) (X := (((40 * v3) + v4) + ((v5 - 1) - v7)).toInt) (K := (((40 * v3) + v4) + ((v5 - 1) - v7)).toInt.toNat) (q := 176) rfl atM17 rfl rfl c42 rfl rfl (fun g41 => ?_)
        refine y_iinc (z := (v7 + 1)) (lo' := [some (.ref 0), some (.int v1), some (.int v2), some (.int v3), some (.int v4), some (.int v5), some (.int v6), some (.int (v7 + 1)), some (.int ((v5 - 1) - v7))]) (q := 179) rfl rfl (Nat.le_of_ble_eq_true rfl) (by rw [oi_1]) rfl rfl ?_
        refine y_goto (q := 121) rfl rfl ?_
        exact lz_X7_copy_121 hd v1 v2 v3 v4 v5 v6 k hk n (v7 + 1) g41 (some (.int ((v5 - 1) - v7)))
    · skip
      exact hk  v7 (z8) h
def f_X7_copy (v1 : Int32) (v2 : Int32) (v3 : Int32) (v4 : Int32) (v5 : Int32) (h : dH) : Option (Int32 × dH) := oP (f_X7_isSheet v1) (fun r1 => if r1.toInt = 0 then (some ((-2), h)) else (oP (f_X7_isSheet v3) (fun r4 => if r4.toInt = 0 then (some ((-2), h)) else (if 0 ≤ v1.toInt ∧ v1.toInt < 4 then (if (h 14 (v1.toInt.toNat)).toInt = 0 then (some ((-11), h)) else (if 0 ≤ v3.toInt ∧ v3.toInt < 4 then (if (h 14 (v3.toInt.toNat)).toInt = 0 then (some ((-11), h)) else (if 0 ≤ v1.toInt ∧ v1.toInt < 4 then (if 0 ≤ v3.toInt ∧ v3.toInt < 4 then (if (h 15 (v1.toInt.toNat)).toInt = (h 15 (v3.toInt.toNat)).toInt then (if v5.toInt < 0 then (some ((-12), h)) else (if v2.toInt < 0 then (some ((-12), h)) else (if v4.toInt < 0 then (some ((-12), h)) else (if 0 ≤ v1.toInt ∧ v1.toInt < 4 then (if ((h 16 (v1.toInt.toNat)) - v5).toInt < v2.toInt then (some ((-12), h)) else (if 0 ≤ v3.toInt ∧ v3.toInt < 4 then (if ((h 16 (v3.toInt.toNat)) - v5).toInt < v4.toInt then (some ((-12), h)) else (if v1.toInt = v3.toInt then (if v2.toInt < v4.toInt then (l_X7_copy_121 v1 v2 v3 v4 v5 1  (fun g45 => some (v5, g45)) fuel0 0 h) else (l_X7_copy_121 v1 v2 v3 v4 v5 0  (fun g48 => some (v5, g48)) fuel0 0 h)) else (l_X7_copy_121 v1 v2 v3 v4 v5 0  (fun g51 => some (v5, g51)) fuel0 0 h))) else none)) else none)))) else (some ((-13), h))) else none) else none)) else none)) else none))))
theorem m_X7_copy {d : Nat} (hd : 3 ≤ d) (v1 : Int32) (v2 : Int32) (v3 : Int32) (v4 : Int32) (v5 : Int32) (h : dH) : dX shM d 229 [.ref 0, .int v1, .int v2, .int v3, .int v4, .int v5] dI (f_X7_copy v1 v2 v3 v4 v5 h) h := by
  obtain ⟨e, rfl⟩ : ∃ e, d = e + 1 := ⟨d - 1, by omega⟩
  have hd : 2 ≤ e := by omega
  refine dX_of (mj := mj229) (lo := [some (.ref 0), some (.int v1), some (.int v2), some (.int v3), some (.int v4), some (.int v5), none, none, none]) rfl (Nat.le_of_ble_eq_true rfl) rfl ?_
  unfold f_X7_copy
  refine y_iload_n (q := 1) rfl rfl rfl ?_
  refine y_callP (I := .invokestatic 436) (idx := 436) (KD := 0) (J := 236) (mj := mj226) (as := [.int v1]) (r := []) (q := 4) rfl (fun _ _ _ _ _ _ => rfl) rfl (by decide) rfl rfl rfl rfl rfl (Nat.le_of_ble_eq_true rfl) rfl rfl (m_X7_isSheet (Nat.le_trans (by decide) hd) v1 h) (fun r1 => ?_)
  refine y_eq0 (q := 14) (q' := 7) rfl rfl rfl rfl (fun c2 => ?_) (fun c3 => ?_)
  · skip
    refine y_bipush (x := (-2)) (q := 16) rfl (by decide) rfl ?_
    exact y_retI rfl (by decide) rfl rfl
  · skip
    refine y_iload_n (q := 8) rfl rfl rfl ?_
    refine y_callP (I := .invokestatic 436) (idx := 436) (KD := 0) (J := 236) (mj := mj226) (as := [.int v3]) (r := []) (q := 11) rfl (fun _ _ _ _ _ _ => rfl) rfl (by decide) rfl rfl rfl rfl rfl (Nat.le_of_ble_eq_true rfl) rfl rfl (m_X7_isSheet (Nat.le_trans (by decide) hd) v3 h) (fun r4 => ?_)
    refine y_ne0 (q := 17) (q' := 14) rfl rfl rfl rfl (fun c5 => ?_) (fun c6 => ?_)
    · skip
      refine y_bipush (x := (-2)) (q := 16) rfl (by decide) rfl ?_
      exact y_retI rfl (by decide) rfl rfl
    · skip
      refine y_aload_n (q := 18) rfl rfl rfl ?_
      refine y_getR (b := 14) (q := 21) rfl rfl (by decide) atM0 rfl rfl ?_
      refine y_iload_n (q := 22) rfl rfl rfl ?_
      refine y_guard (fun c7 => ?_)
      refine y_bald (n := 4) (N := 4) (X := v1.toInt) (K := v1.toInt.toNat) (q := 23) hbM rfl atM14 rfl rfl c7 rfl rfl ?_
      refine y_eq0 (q := 35) (q' := 26) rfl rfl rfl rfl (fun c8 => ?_) (fun c9 => ?_)
      · skip
        refine y_bipush (x := (-11)) (q := 37) rfl (by decide) rfl ?_
        exact y_retI rfl (by decide) rfl rfl
      · skip
        refine y_aload_n (q := 27) rfl rfl rfl ?_
        refine y_getR (b := 14) (q := 30) rfl rfl (by decide) atM0 rfl rfl ?_
        refine y_iload_n (q := 31) rfl rfl rfl ?_
        refine y_guard (fun c10 => ?_)
        refine y_bald (n := 4) (N := 4) (X := v3.toInt) (K := v3.toInt.toNat) (q := 32) hbM rfl atM14 rfl rfl c10 rfl rfl ?_
        refine y_ne0 (q := 38) (q' := 35) rfl rfl rfl rfl (fun c11 => ?_) (fun c12 => ?_)
        · skip
          refine y_bipush (x := (-11)) (q := 37) rfl (by decide) rfl ?_
          exact y_retI rfl (by decide) rfl rfl
        · skip
          refine y_aload_n (q := 39) rfl rfl rfl ?_
          refine y_getR (b := 15) (q := 42) rfl rfl (by decide) atM0 rfl rfl ?_
          refine y_iload_n (q := 43) rfl rfl rfl ?_
          refine y_guard (fun c13 => ?_)
          refine y_iald (n := 4) (N := 4) (X := v1.toInt) (K := v1.toInt.toNat) (q := 44) hbM rfl atM15 rfl rfl c13 rfl rfl ?_
          refine y_aload_n (q := 45) rfl rfl rfl ?_
          refine y_getR (b := 15) (q := 48) rfl rfl (by decide) atM0 rfl rfl ?_
          refine y_iload_n (q := 49) rfl rfl rfl ?_
          refine y_guard (fun c14 => ?_)
          refine y_iald (n := 4) (N := 4) (X := v3.toInt) (K := v3.toInt.toNat) (q := 50) hbM rfl atM15 rfl rfl c14 rfl rfl ?_
          refine y_eq (q := 56) (q' := 53) rfl rfl rfl rfl rfl (fun c15 => ?_) (fun c16 => ?_)
          · skip
            refine y_iload (q := 58) rfl rfl rfl ?_
            refine y_lt0 (q := 97) (q' := 61) rfl rfl rfl rfl (fun c17 => ?_) (fun c18 => ?_)
            · skip
              refine y_bipush (x := (-12)) (q := 99) rfl (by decide) rfl ?_
              exact y_retI rfl (by decide) rfl rfl
            · skip
              refine y_iload_n (q := 62) rfl rfl rfl ?_
              refine y_lt0 (q := 97) (q' := 65) rfl rfl rfl rfl (fun c19 => ?_) (fun c20 => ?_)
              · skip
                refine y_bipush (x := (-12)) (q := 99) rfl (by decide) rfl ?_
                exact y_retI rfl (by decide) rfl rfl
              · skip
                refine y_iload (q := 67) rfl rfl rfl ?_
                refine y_lt0 (q := 97) (q' := 70) rfl rfl rfl rfl (fun c21 => ?_) (fun c22 => ?_)
                · skip
                  refine y_bipush (x := (-12)) (q := 99) rfl (by decide) rfl ?_
                  exact y_retI rfl (by decide) rfl rfl
                · skip
                  refine y_iload_n (q := 71) rfl rfl rfl ?_
                  refine y_aload_n (q := 72) rfl rfl rfl ?_
                  refine y_getR (b := 16) (q := 75) rfl rfl (by decide) atM0 rfl rfl ?_
                  refine y_iload_n (q := 76) rfl rfl rfl ?_
                  refine y_guard (fun c23 => ?_)
                  refine y_iald (n := 4) (N := 4) (X := v1.toInt) (K := v1.toInt.toNat) (q := 77) hbM rfl atM16 rfl rfl c23 rfl rfl ?_
                  refine y_iload (q := 79) rfl rfl rfl ?_
                  refine y_isub (q := 80) rfl rfl ?_
                  refine y_gt (q := 97) (q' := 83) rfl rfl rfl rfl rfl (fun c24 => ?_) (fun c25 => ?_)
                  · skip
                    refine y_bipush (x := (-12)) (q := 99) rfl (by decide) rfl ?_
                    exact y_retI rfl (by decide) rfl rfl
                  · skip
                    refine y_iload (q := 85) rfl rfl rfl ?_
                    refine y_aload_n (q := 86) rfl rfl rfl ?_
                    refine y_getR (b := 16) (q := 89) rfl rfl (by decide) atM0 rfl rfl ?_
                    refine y_iload_n (q := 90) rfl rfl rfl ?_
                    refine y_guard (fun c26 => ?_)
                    refine y_iald (n := 4) (N := 4) (X := v3.toInt) (K := v3.toInt.toNat) (q := 91) hbM rfl atM16 rfl rfl c26 rfl rfl ?_
                    refine y_iload (q := 93) rfl rfl rfl ?_
                    refine y_isub (q := 94) rfl rfl ?_
                    refine y_le (q := 100) (q' := 97) rfl rfl rfl rfl rfl (fun c27 => ?_) (fun c28 => ?_)
                    · skip
                      refine y_bipush (x := (-12)) (q := 99) rfl (by decide) rfl ?_
                      exact y_retI rfl (by decide) rfl rfl
                    · skip
                      refine y_iload_n (q := 101) rfl rfl rfl ?_
                      refine y_iload_n (q := 102) rfl rfl rfl ?_
                      refine y_ne (q := 115) (q' := 105) rfl rfl rfl rfl rfl (fun c29 => ?_) (fun c30 => ?_)
                      · skip
                        refine y_iload_n (q := 106) rfl rfl rfl ?_
                        refine y_iload (q := 108) rfl rfl rfl ?_
                        refine y_ge (q := 115) (q' := 111) rfl rfl rfl rfl rfl (fun c31 => ?_) (fun c32 => ?_)
                        · skip
                          refine y_iconst (x := 1) (q := 112) rfl (by decide) rfl ?_
                          refine y_goto (q := 116) rfl rfl ?_
                          refine y_istore (lo' := [some (.ref 0), some (.int v1), some (.int v2), some (.int v3), some (.int v4), some (.int v5), some (.int 1), none, none]) (q := 118) rfl (Nat.le_of_ble_eq_true rfl) rfl rfl ?_
                          refine y_iconst (x := 0) (q := 119) rfl (by decide) rfl ?_
                          refine y_istore (lo' := [some (.ref 0), some (.int v1), some (.int v2), some (.int v3), some (.int v4), some (.int v5), some (.int 1), some (.int 0), none]) (q := 121) rfl (Nat.le_of_ble_eq_true rfl) rfl rfl ?_
                          refine lz_X7_copy_121 hd v1 v2 v3 v4 v5 1  _ (fun z43 z44 g45 => ?_) fuel0 0 h (none)
                          refine y_iload (q := 184) rfl rfl rfl ?_
                          exact y_retI rfl (by decide) rfl rfl
                        · skip
                          refine y_iconst (x := 0) (q := 116) rfl (by decide) rfl ?_
                          refine y_istore (lo' := [some (.ref 0), some (.int v1), some (.int v2), some (.int v3), some (.int v4), some (.int v5), some (.int 0), none, none]) (q := 118) rfl (Nat.le_of_ble_eq_true rfl) rfl rfl ?_
                          refine y_iconst (x := 0) (q := 119) rfl (by decide) rfl ?_
                          refine y_istore (lo' := [some (.ref 0), some (.int v1), some (.int v2), some (.int v3), some (.int v4), some (.int v5), some (.int 0), some (.int 0), none]) (q := 121) rfl (Nat.le_of_ble_eq_true rfl) rfl rfl ?_
                          refine lz_X7_copy_121 hd v1 v2 v3 v4 v5 0  _ (fun z46 z47 g48 => ?_) fuel0 0 h (none)
                          refine y_iload (q := 184) rfl rfl rfl ?_
                          exact y_retI rfl (by decide) rfl rfl
                      · skip
                        refine y_iconst (x := 0) (q := 116) rfl (by decide) rfl ?_
                        refine y_istore (lo' := [some (.ref 0), some (.int v1), some (.int v2), some (.int v3), some (.int v4), some (.int v5), some (.int 0), none, none]) (q := 118) rfl (Nat.le_of_ble_eq_true rfl) rfl rfl ?_
                        refine y_iconst (x := 0) (q := 119) rfl (by decide) rfl ?_
                        refine y_istore (lo' := [some (.ref 0), some (.int v1), some (.int v2), some (.int v3), some (.int v4), some (.int v5), some (.int 0), some (.int 0), none]) (q := 121) rfl (Nat.le_of_ble_eq_true rfl) rfl rfl ?_
                        refine lz_X7_copy_121 hd v1 v2 v3 v4 v5 0  _ (fun z49 z50 g51 => ?_) fuel0 0 h (none)
                        refine y_iload (q := 184) rfl rfl rfl ?_
                        exact y_retI rfl (by decide) rfl rfl
          · skip
            refine y_bipush (x := (-13)) (q := 55) rfl (by decide) rfl ?_
            exact y_retI rfl (by decide) rfl rfl
def l_X7_houses_75 (v1 : Int32) (v3 : Int32) (v4 : Int32) (k : Int32 → dH → Option (Int32 × dH)) : Nat → Int32 → Int32 → dH → Option (Int32 × dH)
  | 0, _, _, _ => none
  | n + 1, v5, v6, h => if v6.toInt < v4.toInt then (if v3.toInt < 0 then (some ((-12), h)) else (if 0 ≤ v1.toInt ∧ v1.toInt < 4 then (if (((h 16 (v1.toInt.toNat)) - (2 * v6)) - 2).toInt < v3.toInt then (some ((-12), h)) else (if 0 ≤ (((40 * v1) + v3) + (2 * v6)).toInt ∧ (((40 * v1) + v3) + (2 * v6)).toInt < 160 then (if 0 ≤ ((((40 * v1) + v3) + (2 * v6)) + 1).toInt ∧ ((((40 * v1) + v3) + (2 * v6)) + 1).toInt < 160 then (oI (f_X7_house (h 17 ((((40 * v1) + v3) + (2 * v6)).toInt.toNat)) (h 17 (((((40 * v1) + v3) + (2 * v6)) + 1).toInt.toNat)) h) (fun r25 g26 => if r25.toInt < 0 then (l_X7_houses_75 v1 v3 v4 k n (v5 + 0) (v6 + 1) g26) else (l_X7_houses_75 v1 v3 v4 k n (v5 + 1) (v6 + 1) g26))) else none) else none)) else none)) else (k v5 h)
theorem lz_X7_houses_75 {d : Nat} (hd : 3 ≤ d) (v1 : Int32) (v2 : Int32) (v3 : Int32) (v4 : Int32) (k : Int32 → dH → Option (Int32 × dH)) (hk : ∀ (v5 : Int32) (w6 : Int32) (z7 : Option Value) (h : dH), dY shM d mj230 dI (k v5 h) 158 [some (.ref 0), some (.int v1), some (.int v2), some (.int v3), some (.int v4), some (.int v5), some (.int w6), z7] [] h) : ∀ (n : Nat) (v5 : Int32) (v6 : Int32) (h : dH) (z7 : Option Value), dY shM d mj230 dI (l_X7_houses_75 v1 v3 v4 k n v5 v6 h) 75 [some (.ref 0), some (.int v1), some (.int v2), some (.int v3), some (.int v4), some (.int v5), some (.int v6), z7] [] h
  | 0, _, _, _, _ => dY_none
  | n + 1, v5, v6, h, z7 => by
    rw [l_X7_houses_75]
    refine y_iload (q := 77) rfl rfl rfl ?_
    refine y_iload (q := 79) rfl rfl rfl ?_
    refine y_ge (q := 158) (q' := 82) rfl rfl rfl rfl rfl (fun c16 => ?_) (fun c17 => ?_)
    · skip
      refine y_iload_n (q := 83) rfl rfl rfl ?_
      refine y_lt0 (q := 103) (q' := 86) rfl rfl rfl rfl (fun c18 => ?_) (fun c19 => ?_)
      · skip
        refine y_bipush (x := (-12)) (q := 105) rfl (by decide) rfl ?_
        exact y_retI rfl (by decide) rfl rfl
      · skip
        refine y_iload_n (q := 87) rfl rfl rfl ?_
        refine y_aload_n (q := 88) rfl rfl rfl ?_
        refine y_getR (b := 16) (q := 91) rfl rfl (by decide) atM0 rfl rfl ?_
        refine y_iload_n (q := 92) rfl rfl rfl ?_
        refine y_guard (fun c20 => ?_)
        refine y_iald (n := 4) (N := 4) (X := v1.toInt) (K := v1.toInt.toNat) (q := 93) hbM rfl atM16 rfl rfl c20 rfl rfl ?_
        refine y_iconst (x := 2) (q := 94) rfl (by decide) rfl ?_
        refine y_iload (q := 96) rfl rfl rfl ?_
        refine y_imul (q := 97) rfl rfl ?_
        refine y_isub (q := 98) rfl rfl ?_
        refine y_iconst (x := 2) (q := 99) rfl (by decide) rfl ?_
        refine y_isub (q := 100) rfl rfl ?_
        refine y_le (q := 106) (q' := 103) rfl rfl rfl rfl rfl (fun c21 => ?_) (fun c22 => ?_)
        · skip
          refine y_bipush (x := (-12)) (q := 105) rfl (by decide) rfl ?_
          exact y_retI rfl (by decide) rfl rfl
        · skip
          refine y_bipush (x := 40) (q := 108) rfl (by decide) rfl ?_
          refine y_iload_n (q := 109) rfl rfl rfl ?_
          refine y_imul (q := 110) rfl rfl ?_
          refine y_iload_n (q := 111) rfl rfl rfl ?_
          refine y_iadd (q := 112) rfl rfl ?_
          refine y_iconst (x := 2) (q := 113) rfl (by decide) rfl ?_
          refine y_iload (q := 115) rfl rfl rfl ?_
          refine y_imul (q := 116) rfl rfl ?_
          refine y_iadd (q := 117) rfl rfl ?_
          refine y_istore (lo' := [some (.ref 0), some (.int v1), some (.int v2), some (.int v3), some (.int v4), some (.int v5), some (.int v6), some (.int (((40 * v1) + v3) + (2 * v6)))]) (q := 119) rfl (Nat.le_of_ble_eq_true rfl) rfl rfl ?_
          refine y_iload (q := 121) rfl rfl rfl ?_
          refine y_aload_n (q := 122) rfl rfl rfl ?_
          refine y_aload_n (q := 123) rfl rfl rfl ?_
          refine y_getR (b := 17) (q := 126) rfl rfl (by decide) atM0 rfl rfl ?_
          refine y_iload (q := 128) rfl rfl rfl ?_
          refine y_guard (fun c23 => ?_)
          refine y_iald (n := 160) (N := 160) (X := (((40 * v1) + v3) + (2 * v6)).toInt) (K := (((40 * v1) + v3) + (2 * v6)).toInt.toNat) (q := 129) hbM rfl atM17 rfl rfl c23 rfl rfl ?_
          refine y_aload_n (q := 130) rfl rfl rfl ?_
          refine y_getR (b := 17) (q := 133) rfl rfl (by decide) atM0 rfl rfl ?_
          refine y_iload (q := 135) rfl rfl rfl ?_
          refine y_iconst (x := 1) (q := 136) rfl (by decide) rfl ?_
          refine y_iadd (q := 137) rfl rfl ?_
          refine y_guard (fun c24 => ?_)
          refine y_iald (n := 160) (N := 160) (X := ((((40 * v1) + v3) + (2 * v6)) + 1).toInt) (K := ((((40 * v1) + v3) + (2 * v6)) + 1).toInt.toNat) (q := 138) hbM rfl atM17 rfl rfl c24 rfl rfl ?_
          refine y_callI (I := .invokevirtual 468) (idx := 468) (KD := 1) (J := 138) (mj := mj128) (as := [.ref 0, .int (h 17 ((((40 * v1) + v3) + (2 * v6)).toInt.toNat)), .int (h 17 (((((40 * v1) + v3) + (2 * v6)) + 1).toInt.toNat))]) (r := [.int v5]) (q := 141) rfl (fun _ _ _ _ _ _ => rfl) rfl (by decide) rfl rfl rfl rfl rfl (Nat.le_of_ble_eq_true rfl) (d_recv atM0 (by decide) (by decide)) rfl (m_X7_house (Nat.le_trans (by decide) hd) (h 17 ((((40 * v1) + v3) + (2 * v6)).toInt.toNat)) (h 17 (((((40 * v1) + v3) + (2 * v6)) + 1).toInt.toNat)) h) (fun r25 g26 => ?_)
          refine y_lt0 (q := 148) (q' := 144) rfl rfl rfl rfl (fun c27 => ?_) (fun c28 => ?_)
          · skip
            refine y_iconst (x := 0) (q := 149) rfl (by decide) rfl ?_
            refine y_iadd (q := 150) rfl rfl ?_
            refine y_istore (lo' := [some (.ref 0), some (.int v1), some (.int v2), some (.int v3), some (.int v4), some (.int (v5 + 0)), some (.int v6), some (.int (((40 * v1) + v3) + (2 * v6)))]) (q := 152) rfl (Nat.le_of_ble_eq_true rfl) rfl rfl ?_
            refine y_iinc (z := (v6 + 1)) (lo' := [some (.ref 0), some (.int v1), some (.int v2), some (.int v3), some (.int v4), some (.int (v5 + 0)), some (.int (v6 + 1)), some (.int (((40 * v1) + v3) + (2 * v6)))]) (q := 155) rfl rfl (Nat.le_of_ble_eq_true rfl) (by rw [oi_1]) rfl rfl ?_
            refine y_goto (q := 75) rfl rfl ?_
            exact lz_X7_houses_75 hd v1 v2 v3 v4 k hk n (v5 + 0) (v6 + 1) g26 (some (.int (((40 * v1) + v3) + (2 * v6))))
          · skip
            refine y_iconst (x := 1) (q := 145) rfl (by decide) rfl ?_
            refine y_goto (q := 149) rfl rfl ?_
            refine y_iadd (q := 150) rfl rfl ?_
            refine y_istore (lo' := [some (.ref 0), some (.int v1), some (.int v2), some (.int v3), some (.int v4), some (.int (v5 + 1)), some (.int v6), some (.int (((40 * v1) + v3) + (2 * v6)))]) (q := 152) rfl (Nat.le_of_ble_eq_true rfl) rfl rfl ?_
            refine y_iinc (z := (v6 + 1)) (lo' := [some (.ref 0), some (.int v1), some (.int v2), some (.int v3), some (.int v4), some (.int (v5 + 1)), some (.int (v6 + 1)), some (.int (((40 * v1) + v3) + (2 * v6)))]) (q := 155) rfl rfl (Nat.le_of_ble_eq_true rfl) (by rw [oi_1]) rfl rfl ?_
            refine y_goto (q := 75) rfl rfl ?_
            exact lz_X7_houses_75 hd v1 v2 v3 v4 k hk n (v5 + 1) (v6 + 1) g26 (some (.int (((40 * v1) + v3) + (2 * v6))))
    · skip
      exact hk v5 v6 (z7) h
def f_X7_houses (v1 : Int32) (v2 : Int32) (v3 : Int32) (v4 : Int32) (h : dH) : Option (Int32 × dH) := oP (f_X7_isSheet v1) (fun r1 => if r1.toInt = 0 then (some ((-2), h)) else (oP (f_X7_in (v2.toInt64) 0 2) (fun r4 => if r4.toInt = 0 then (some ((-2), h)) else (oP (f_X7_in (v4.toInt64) 0 8) (fun r7 => if r7.toInt = 0 then (some ((-2), h)) else (if 0 ≤ v1.toInt ∧ v1.toInt < 4 then (if (h 14 (v1.toInt.toNat)).toInt = 0 then (if 0 ≤ v1.toInt ∧ v1.toInt < 4 then (if (h 14 (v1.toInt.toNat)).toInt = 0 then (some ((-11), h)) else (l_X7_houses_75 v1 v3 v4  (fun v5_29 g32 => some (v5_29, g32)) fuel0 0 0 h)) else none) else (if 0 ≤ v1.toInt ∧ v1.toInt < 4 then (if (h 15 (v1.toInt.toNat)).toInt = v2.toInt then (if 0 ≤ v1.toInt ∧ v1.toInt < 4 then (if (h 14 (v1.toInt.toNat)).toInt = 0 then (some ((-11), h)) else (l_X7_houses_75 v1 v3 v4  (fun v5_39 g42 => some (v5_39, g42)) fuel0 0 0 h)) else none) else (some ((-13), h))) else none)) else none))))))
theorem m_X7_houses {d : Nat} (hd : 4 ≤ d) (v1 : Int32) (v2 : Int32) (v3 : Int32) (v4 : Int32) (h : dH) : dX shM d 230 [.ref 0, .int v1, .int v2, .int v3, .int v4] dI (f_X7_houses v1 v2 v3 v4 h) h := by
  obtain ⟨e, rfl⟩ : ∃ e, d = e + 1 := ⟨d - 1, by omega⟩
  have hd : 3 ≤ e := by omega
  refine dX_of (mj := mj230) (lo := [some (.ref 0), some (.int v1), some (.int v2), some (.int v3), some (.int v4), none, none, none]) rfl (Nat.le_of_ble_eq_true rfl) rfl ?_
  unfold f_X7_houses
  refine y_iload_n (q := 1) rfl rfl rfl ?_
  refine y_callP (I := .invokestatic 436) (idx := 436) (KD := 0) (J := 236) (mj := mj226) (as := [.int v1]) (r := []) (q := 4) rfl (fun _ _ _ _ _ _ => rfl) rfl (by decide) rfl rfl rfl rfl rfl (Nat.le_of_ble_eq_true rfl) rfl rfl (m_X7_isSheet (Nat.le_trans (by decide) hd) v1 h) (fun r1 => ?_)
  refine y_eq0 (q := 32) (q' := 7) rfl rfl rfl rfl (fun c2 => ?_) (fun c3 => ?_)
  · skip
    refine y_bipush (x := (-2)) (q := 34) rfl (by decide) rfl ?_
    exact y_retI rfl (by decide) rfl rfl
  · skip
    refine y_iload_n (q := 8) rfl rfl rfl ?_
    refine y_i2l (q := 9) rfl rfl ?_
    refine y_lconst (u := 0) (q := 10) rfl (by decide) rfl ?_
    refine y_ldc2_w (u := 2) (q := 13) rfl rfl rfl ?_
    refine y_callP (I := .invokestatic 91) (idx := 91) (KD := 0) (J := 128) (mj := mj118) (as := [.long v2.toInt64, .long 0, .long 2]) (r := []) (q := 16) rfl (fun _ _ _ _ _ _ => rfl) rfl (by decide) rfl rfl rfl rfl rfl (Nat.le_of_ble_eq_true rfl) rfl rfl (m_X7_in (Nat.le_trans (by decide) hd) (v2.toInt64) 0 2 h) (fun r4 => ?_)
    refine y_eq0 (q := 32) (q' := 19) rfl rfl rfl rfl (fun c5 => ?_) (fun c6 => ?_)
    · skip
      refine y_bipush (x := (-2)) (q := 34) rfl (by decide) rfl ?_
      exact y_retI rfl (by decide) rfl rfl
    · skip
      refine y_iload (q := 21) rfl rfl rfl ?_
      refine y_i2l (q := 22) rfl rfl ?_
      refine y_lconst (u := 0) (q := 23) rfl (by decide) rfl ?_
      refine y_ldc2_w (u := 8) (q := 26) rfl rfl rfl ?_
      refine y_callP (I := .invokestatic 91) (idx := 91) (KD := 0) (J := 128) (mj := mj118) (as := [.long v4.toInt64, .long 0, .long 8]) (r := []) (q := 29) rfl (fun _ _ _ _ _ _ => rfl) rfl (by decide) rfl rfl rfl rfl rfl (Nat.le_of_ble_eq_true rfl) rfl rfl (m_X7_in (Nat.le_trans (by decide) hd) (v4.toInt64) 0 8 h) (fun r7 => ?_)
      refine y_ne0 (q := 35) (q' := 32) rfl rfl rfl rfl (fun c8 => ?_) (fun c9 => ?_)
      · skip
        refine y_bipush (x := (-2)) (q := 34) rfl (by decide) rfl ?_
        exact y_retI rfl (by decide) rfl rfl
      · skip
        refine y_aload_n (q := 36) rfl rfl rfl ?_
        refine y_getR (b := 14) (q := 39) rfl rfl (by decide) atM0 rfl rfl ?_
        refine y_iload_n (q := 40) rfl rfl rfl ?_
        refine y_guard (fun c10 => ?_)
        refine y_bald (n := 4) (N := 4) (X := v1.toInt) (K := v1.toInt.toNat) (q := 41) hbM rfl atM14 rfl rfl c10 rfl rfl ?_
        refine y_eq0 (q := 57) (q' := 44) rfl rfl rfl rfl (fun c11 => ?_) (fun c12 => ?_)
        · skip
          refine y_aload_n (q := 58) rfl rfl rfl ?_
          refine y_getR (b := 14) (q := 61) rfl rfl (by decide) atM0 rfl rfl ?_
          refine y_iload_n (q := 62) rfl rfl rfl ?_
          refine y_guard (fun c13 => ?_)
          refine y_bald (n := 4) (N := 4) (X := v1.toInt) (K := v1.toInt.toNat) (q := 63) hbM rfl atM14 rfl rfl c13 rfl rfl ?_
          refine y_ne0 (q := 69) (q' := 66) rfl rfl rfl rfl (fun c14 => ?_) (fun c15 => ?_)
          · skip
            refine y_bipush (x := (-11)) (q := 68) rfl (by decide) rfl ?_
            exact y_retI rfl (by decide) rfl rfl
          · skip
            refine y_iconst (x := 0) (q := 70) rfl (by decide) rfl ?_
            refine y_istore (lo' := [some (.ref 0), some (.int v1), some (.int v2), some (.int v3), some (.int v4), some (.int 0), none, none]) (q := 72) rfl (Nat.le_of_ble_eq_true rfl) rfl rfl ?_
            refine y_iconst (x := 0) (q := 73) rfl (by decide) rfl ?_
            refine y_istore (lo' := [some (.ref 0), some (.int v1), some (.int v2), some (.int v3), some (.int v4), some (.int 0), some (.int 0), none]) (q := 75) rfl (Nat.le_of_ble_eq_true rfl) rfl rfl ?_
            refine lz_X7_houses_75 hd v1 v2 v3 v4  _ (fun v5_29 z30 z31 g32 => ?_) fuel0 0 0 h (none)
            refine y_iload (q := 160) rfl rfl rfl ?_
            exact y_retI rfl (by decide) rfl rfl
        · skip
          refine y_aload_n (q := 45) rfl rfl rfl ?_
          refine y_getR (b := 15) (q := 48) rfl rfl (by decide) atM0 rfl rfl ?_
          refine y_iload_n (q := 49) rfl rfl rfl ?_
          refine y_guard (fun c33 => ?_)
          refine y_iald (n := 4) (N := 4) (X := v1.toInt) (K := v1.toInt.toNat) (q := 50) hbM rfl atM15 rfl rfl c33 rfl rfl ?_
          refine y_iload_n (q := 51) rfl rfl rfl ?_
          refine y_eq (q := 57) (q' := 54) rfl rfl rfl rfl rfl (fun c34 => ?_) (fun c35 => ?_)
          · skip
            refine y_aload_n (q := 58) rfl rfl rfl ?_
            refine y_getR (b := 14) (q := 61) rfl rfl (by decide) atM0 rfl rfl ?_
            refine y_iload_n (q := 62) rfl rfl rfl ?_
            refine y_guard (fun c36 => ?_)
            refine y_bald (n := 4) (N := 4) (X := v1.toInt) (K := v1.toInt.toNat) (q := 63) hbM rfl atM14 rfl rfl c36 rfl rfl ?_
            refine y_ne0 (q := 69) (q' := 66) rfl rfl rfl rfl (fun c37 => ?_) (fun c38 => ?_)
            · skip
              refine y_bipush (x := (-11)) (q := 68) rfl (by decide) rfl ?_
              exact y_retI rfl (by decide) rfl rfl
            · skip
              refine y_iconst (x := 0) (q := 70) rfl (by decide) rfl ?_
              refine y_istore (lo' := [some (.ref 0), some (.int v1), some (.int v2), some (.int v3), some (.int v4), some (.int 0), none, none]) (q := 72) rfl (Nat.le_of_ble_eq_true rfl) rfl rfl ?_
              refine y_iconst (x := 0) (q := 73) rfl (by decide) rfl ?_
              refine y_istore (lo' := [some (.ref 0), some (.int v1), some (.int v2), some (.int v3), some (.int v4), some (.int 0), some (.int 0), none]) (q := 75) rfl (Nat.le_of_ble_eq_true rfl) rfl rfl ?_
              refine lz_X7_houses_75 hd v1 v2 v3 v4  _ (fun v5_39 z40 z41 g42 => ?_) fuel0 0 0 h (none)
              refine y_iload (q := 160) rfl rfl rfl ?_
              exact y_retI rfl (by decide) rfl rfl
          · skip
            refine y_bipush (x := (-13)) (q := 56) rfl (by decide) rfl ?_
            exact y_retI rfl (by decide) rfl rfl
def f_X7_over (v0 : Int32) : Option (Int32) := if v0.toInt = 0 then ((some (-1))) else (if v0.toInt = 3 then ((some 1)) else (if v0.toInt = 4 then ((some 2)) else ((some 0))))
theorem m_X7_over {d : Nat} (hd : 1 ≤ d) (v0 : Int32) (h : dH) : dX shM d 231 [.int v0] (dP h) (f_X7_over v0) h := by
  obtain ⟨e, rfl⟩ : ∃ e, d = e + 1 := ⟨d - 1, by omega⟩
  have hd : 0 ≤ e := by omega
  refine dX_of (mj := mj231) (lo := [some (.int v0)]) rfl (Nat.le_of_ble_eq_true rfl) rfl ?_
  unfold f_X7_over
  refine y_iload_n (q := 1) rfl rfl rfl ?_
  refine y_ne0 (q := 8) (q' := 4) rfl rfl rfl rfl (fun c1 => ?_) (fun c2 => ?_)
  · skip
    refine y_iconst (x := (-1)) (q := 5) rfl (by decide) rfl ?_
    refine y_goto (q := 27) rfl rfl ?_
    exact y_retP rfl (by decide) rfl rfl
  · skip
    refine y_iload_n (q := 9) rfl rfl rfl ?_
    refine y_iconst (x := 3) (q := 10) rfl (by decide) rfl ?_
    refine y_ne (q := 17) (q' := 13) rfl rfl (by decide) rfl rfl (fun c3 => ?_) (fun c4 => ?_)
    · skip
      refine y_iconst (x := 1) (q := 14) rfl (by decide) rfl ?_
      refine y_goto (q := 27) rfl rfl ?_
      exact y_retP rfl (by decide) rfl rfl
    · skip
      refine y_iload_n (q := 18) rfl rfl rfl ?_
      refine y_iconst (x := 4) (q := 19) rfl (by decide) rfl ?_
      refine y_ne (q := 26) (q' := 22) rfl rfl (by decide) rfl rfl (fun c5 => ?_) (fun c6 => ?_)
      · skip
        refine y_iconst (x := 2) (q := 23) rfl (by decide) rfl ?_
        refine y_goto (q := 27) rfl rfl ?_
        exact y_retP rfl (by decide) rfl rfl
      · skip
        refine y_iconst (x := 0) (q := 27) rfl (by decide) rfl ?_
        exact y_retP rfl (by decide) rfl rfl
end
end

section
/-! X7_taken (by program) -/
noncomputable section
def l_X7_taken_33 (v2 : Int32) (k : Int32 → Option (Int32)) : Nat → Int32 → Option (Int32)
  | 0, _ => none
  | n + 1, v3 => if v3.toInt = (-1) then (k v3 ) else (if v3.toInt = v2.toInt then (k v3 ) else (oP (f_X7_over v3) (fun r12 => l_X7_taken_33 v2 k n r12 )))
theorem lz_X7_taken_33 {d : Nat} (hd : 2 ≤ d) (v1 : Int32) (v2 : Int32) (h : dH) (k : Int32 → Option (Int32)) (hk : ∀ (v3 : Int32), dY shM d mj232 (dP h) (k v3) 51 [some (.ref 0), some (.int v1), some (.int v2), some (.int v3)] [] h) : ∀ (n : Nat) (v3 : Int32), dY shM d mj232 (dP h) (l_X7_taken_33 v2 k n v3) 33 [some (.ref 0), some (.int v1), some (.int v2), some (.int v3)] [] h
  | 0, _ => dY_none
  | n + 1, v3 => by
    rw [l_X7_taken_33]
    refine y_iload_n (q := 34) rfl rfl rfl ?_
    refine y_iconst (x := (-1)) (q := 35) rfl (by decide) rfl ?_
    refine y_eq (q := 51) (q' := 38) rfl rfl (by decide) rfl rfl (fun c8 => ?_) (fun c9 => ?_)
    · skip
      exact hk v3  
    · skip
      refine y_iload_n (q := 39) rfl rfl rfl ?_
      refine y_iload_n (q := 40) rfl rfl rfl ?_
      refine y_eq (q := 51) (q' := 43) rfl rfl rfl rfl rfl (fun c10 => ?_) (fun c11 => ?_)
      · skip
        exact hk v3  
      · skip
        refine y_iload_n (q := 44) rfl rfl rfl ?_
        refine y_callP (I := .invokestatic 471) (idx := 471) (KD := 0) (J := 241) (mj := mj231) (as := [.int v3]) (r := []) (q := 47) rfl (fun _ _ _ _ _ _ => rfl) rfl (by decide) rfl rfl rfl rfl rfl (Nat.le_of_ble_eq_true rfl) rfl rfl (m_X7_over (Nat.le_trans (by decide) hd) v3 h) (fun r12 => ?_)
        refine y_istore_n (lo' := [some (.ref 0), some (.int v1), some (.int v2), some (.int r12)]) (q := 48) rfl (Nat.le_of_ble_eq_true rfl) rfl rfl ?_
        refine y_goto (q := 33) rfl rfl ?_
        exact lz_X7_taken_33 hd v1 v2 h k hk n r12  
def f_X7_taken (v1 : Int32) (v2 : Int32) (h : dH) : Option (Int32) := oP (f_X7_in (v2.toInt64) 0 5) (fun r1 => if r1.toInt = 0 then ((some (-2))) else (oP (f_X7_isHouse v1 h) (fun r4 => if r4.toInt = 0 then ((some (-11))) else (if 0 ≤ v1.toInt ∧ v1.toInt < 8 then (l_X7_taken_33 v2  (fun v3_13 => if v3_13.toInt = v2.toInt then (if 0 ≤ v1.toInt ∧ v1.toInt < 8 then ((some (h 5 (v1.toInt.toNat)))) else none) else ((some (-13)))) fuel0 (h 4 (v1.toInt.toNat)) ) else none))))
theorem m_X7_taken {d : Nat} (hd : 3 ≤ d) (v1 : Int32) (v2 : Int32) (h : dH) : dX shM d 232 [.ref 0, .int v1, .int v2] (dP h) (f_X7_taken v1 v2 h) h := by
  obtain ⟨e, rfl⟩ : ∃ e, d = e + 1 := ⟨d - 1, by omega⟩
  have hd : 2 ≤ e := by omega
  refine dX_of (mj := mj232) (lo := [some (.ref 0), some (.int v1), some (.int v2), none]) rfl (Nat.le_of_ble_eq_true rfl) rfl ?_
  unfold f_X7_taken
  refine y_iload_n (q := 1) rfl rfl rfl ?_
  refine y_i2l (q := 2) rfl rfl ?_
  refine y_lconst (u := 0) (q := 3) rfl (by decide) rfl ?_
  refine y_ldc2_w (u := 5) (q := 6) rfl rfl rfl ?_
  refine y_callP (I := .invokestatic 91) (idx := 91) (KD := 0) (J := 128) (mj := mj118) (as := [.long v2.toInt64, .long 0, .long 5]) (r := []) (q := 9) rfl (fun _ _ _ _ _ _ => rfl) rfl (by decide) rfl rfl rfl rfl rfl (Nat.le_of_ble_eq_true rfl) rfl rfl (m_X7_in (Nat.le_trans (by decide) hd) (v2.toInt64) 0 5 h) (fun r1 => ?_)
  refine y_ne0 (q := 15) (q' := 12) rfl rfl rfl rfl (fun c2 => ?_) (fun c3 => ?_)
  · skip
    refine y_bipush (x := (-2)) (q := 14) rfl (by decide) rfl ?_
    exact y_retP rfl (by decide) rfl rfl
  · skip
    refine y_aload_n (q := 16) rfl rfl rfl ?_
    refine y_iload_n (q := 17) rfl rfl rfl ?_
    refine y_callP (I := .invokevirtual 105) (idx := 105) (KD := 1) (J := 132) (mj := mj122) (as := [.ref 0, .int v1]) (r := []) (q := 20) rfl (fun _ _ _ _ _ _ => rfl) rfl (by decide) rfl rfl rfl rfl rfl (Nat.le_of_ble_eq_true rfl) (d_recv atM0 (by decide) (by decide)) rfl (m_X7_isHouse (Nat.le_trans (by decide) hd) v1 h) (fun r4 => ?_)
    refine y_ne0 (q := 26) (q' := 23) rfl rfl rfl rfl (fun c5 => ?_) (fun c6 => ?_)
    · skip
      refine y_bipush (x := (-11)) (q := 25) rfl (by decide) rfl ?_
      exact y_retP rfl (by decide) rfl rfl
    · skip
      refine y_aload_n (q := 27) rfl rfl rfl ?_
      refine y_getR (b := 4) (q := 30) rfl rfl (by decide) atM0 rfl rfl ?_
      refine y_iload_n (q := 31) rfl rfl rfl ?_
      refine y_guard (fun c7 => ?_)
      refine y_iald (n := 8) (N := 8) (X := v1.toInt) (K := v1.toInt.toNat) (q := 32) hbM rfl atM4 rfl rfl c7 rfl rfl ?_
      refine y_istore_n (lo' := [some (.ref 0), some (.int v1), some (.int v2), some (.int (h 4 (v1.toInt.toNat)))]) (q := 33) rfl (Nat.le_of_ble_eq_true rfl) rfl rfl ?_
      refine lz_X7_taken_33 hd v1 v2 h _ (fun v3_13 => ?_) fuel0 (h 4 (v1.toInt.toNat))  
      refine y_iload_n (q := 52) rfl rfl rfl ?_
      refine y_iload_n (q := 53) rfl rfl rfl ?_
      refine y_ne (q := 65) (q' := 56) rfl rfl rfl rfl rfl (fun c14 => ?_) (fun c15 => ?_)
      · skip
        refine y_aload_n (q := 57) rfl rfl rfl ?_
        refine y_getR (b := 5) (q := 60) rfl rfl (by decide) atM0 rfl rfl ?_
        refine y_iload_n (q := 61) rfl rfl rfl ?_
        refine y_guard (fun c16 => ?_)
        refine y_iald (n := 8) (N := 8) (X := v1.toInt) (K := v1.toInt.toNat) (q := 62) hbM rfl atM5 rfl rfl c16 rfl rfl ?_
        refine y_goto (q := 67) rfl rfl ?_
        exact y_retP rfl (by decide) rfl rfl
      · skip
        refine y_bipush (x := (-13)) (q := 67) rfl (by decide) rfl ?_
        exact y_retP rfl (by decide) rfl rfl
end
end

section
/-! SAFETY: what a function needs so that it answers at all -/
noncomputable section
def Sf {α : Type} (t : Option α) (Q : α → Prop) : Prop := ∃ o, t = some o ∧ Q o
section SF
variable {α β : Type} {Q : α → Prop} {A B : Option α}
theorem sf_some {o : α} (h : Q o) : Sf (some o) Q := ⟨o, rfl, h⟩
theorem sf_ite {p : Prop} [Decidable p] (h1 : p → Sf A Q) (h2 : ¬ p → Sf B Q) : Sf (if p then A else B) Q := by
  by_cases hp : p
  · rw [if_pos hp]; exact h1 hp
  · rw [if_neg hp]; exact h2 hp
theorem sf_guard {p : Prop} [Decidable p] (hp : p) (h1 : p → Sf A Q) : Sf (if p then A else none) Q := by
  rw [if_pos hp]; exact h1 hp
theorem sf_oP {P : Int32 → Prop} {t : Option Int32} {f : Int32 → Option α} (h : Sf t P) (hf : ∀ r, P r → Sf (f r) Q) : Sf (oP t f) Q := by
  obtain ⟨o, rfl, ho⟩ := h
  exact hf o ho
theorem sf_oI {P : Int32 × dH → Prop} {t : Option (Int32 × dH)} {f : Int32 → dH → Option α} (h : Sf t P) (hf : ∀ r g, P (r, g) → Sf (f r g) Q) : Sf (oI t f) Q := by
  obtain ⟨o, rfl, ho⟩ := h
  exact hf o.1 o.2 ho
theorem sf_oV {P : dH → Prop} {t : Option dH} {f : dH → Option α} (h : Sf t P) (hf : ∀ g, P g → Sf (f g) Q) : Sf (oV t f) Q := by
  obtain ⟨o, rfl, ho⟩ := h
  exact hf o ho
theorem sf_oH {u : dH} {T : dH → Option α} (hf : ∀ g, g = u → Sf (T g) Q) : Sf (oH u T) Q := hf u rfl
theorem sf_mono {P : α → Prop} (h : Sf A P) (hq : ∀ o, P o → Q o) : Sf A Q := by
  obtain ⟨o, ho, hp⟩ := h
  exact ⟨o, ho, hq o hp⟩
end SF
theorem dU_ne {h : dH} {a k b j : Nat} {x : Int32} (hn : ¬ (b = a ∧ j = k)) : dU h a k x b j = h b j := if_neg hn
theorem dU_eq {h : dH} {a k : Nat} {x : Int32} : dU h a k x a k = x := if_pos ⟨rfl, rfl⟩
theorem bm32 {z : Int} (h1 : -2147483648 ≤ z) (h2 : z < 2147483648) : z.bmod (2 ^ 32) = z := by
  rw [show (2 : Nat) ^ 32 = 4294967296 from rfl]
  rw [Int.bmod_eq_of_le (by omega) (by omega)]
theorem i_add {a b : Int32} {A B : Int} (ha : a.toInt = A) (hb : b.toInt = B) (h1 : -2147483648 ≤ A + B) (h2 : A + B < 2147483648) : (a + b).toInt = A + B := by
  subst ha hb
  rw [Int32.toInt_add, bm32 h1 h2]
theorem i_sub {a b : Int32} {A B : Int} (ha : a.toInt = A) (hb : b.toInt = B) (h1 : -2147483648 ≤ A - B) (h2 : A - B < 2147483648) : (a - b).toInt = A - B := by
  subst ha hb
  rw [Int32.toInt_sub, bm32 h1 h2]
theorem i_mul {a b : Int32} {A B : Int} (ha : a.toInt = A) (hb : b.toInt = B) (h1 : -2147483648 ≤ A * B) (h2 : A * B < 2147483648) : (a * b).toInt = A * B := by
  subst ha hb
  rw [Int32.toInt_mul, bm32 h1 h2]
theorem i_ne0 {y : Int32} (h : ¬ y.toInt = 0) : ¬ y = 0 := fun e => h (by rw [e]; rfl)
theorem l_ne0 {y : Int64} (h : ¬ y.toInt = 0) : ¬ y = 0 := fun e => h (by rw [e]; rfl)
theorem l_i2l {x : Int32} : x.toInt64.toInt = x.toInt := Int32.toInt_toInt64 x
theorem l_fits {u : Int64} (h1 : -2147483648 ≤ u.toInt) (h2 : u.toInt < 2147483648) : u.toInt32.toInt64 = u := by
  apply Int64.toInt_inj.mp
  rw [Int32.toInt_toInt64, Int64.toInt_toInt32, bm32 h1 h2]
/-! the class's ranges -/
def bndC (a k : Nat) : Option (Int × Int) :=
  if a = 0 then (if k = 3 then some (0, 6) else none)
  else if a = 1 then (if k = 0 then some (0, 160) else if k = 5 then some (0, 160) else none)
  else if a = 3 then some (0, 160)
  else if a = 7 then (if k = 0 then some (0, 8) else none)
  else if a = 42 then (if k = 2 then some (0, 160) else none)
  else if a = 10 ∨ a = 14 ∨ a = 18 ∨ a = 22 ∨ a = 26 ∨ a = 30 then (if k = 1 then some (0, 160) else none)
  else if a = 12 ∨ a = 16 ∨ a = 20 ∨ a = 24 ∨ a = 28 ∨ a = 32 then some (0, 160)
  else if a = 34 ∨ a = 36 ∨ a = 38 ∨ a = 40 then (if k = 1 then some (0, 40) else none)
  else if a = 43 ∨ a = 57 ∨ a = 71 then (if k = 2 then some (0, 8) else none)
  else none
def InvC (h : dH) : Prop := ∀ a k lo hi, bndC a k = some (lo, hi) → lo ≤ (h a k).toInt ∧ (h a k).toInt ≤ hi
def bndM (a k : Nat) : Option (Int × Int) :=
  if a = 0 then (if k = 3 then some (0, 6) else if k = 4 then some (0, 5) else if k = 6 then some (0, 160) else if k = 13 then some (0, 8) else if k = 39 then some (-1, 8) else if k = 42 then some (0, 5) else none)
  else if a = 2 then some (0, 160)
  else if a = 1 ∨ a = 3 then some (0, 255)
  else none
def InvM (h : dH) : Prop := (∀ a k lo hi, bndM a k = some (lo, hi) → lo ≤ (h a k).toInt ∧ (h a k).toInt ≤ hi) ∧ ∀ s, s < 4 → ¬ (h 14 s).toInt = 0 → 0 ≤ (h 16 s).toInt ∧ (h 16 s).toInt ≤ 40
theorem inv_free {h : dH} (I : InvC h) {a k : Nat} {x : Int32} (hb : bndC a k = none) : InvC (dU h a k x) := by
  intro b j lo hi e
  by_cases hn : b = a ∧ j = k
  · obtain ⟨rfl, rfl⟩ := hn
    rw [hb] at e; cases e
  · rw [dU_ne hn]; exact I b j lo hi e
theorem inv_set {h : dH} (I : InvC h) {a k : Nat} {x : Int32} {l u : Int} (hb : bndC a k = some (l, u)) (hx : l ≤ x.toInt ∧ x.toInt ≤ u) : InvC (dU h a k x) := by
  intro b j lo hi e
  by_cases hn : b = a ∧ j = k
  · obtain ⟨rfl, rfl⟩ := hn
    rw [hb] at e; cases e
    rw [dU_eq]; exact hx
  · rw [dU_ne hn]; exact I b j lo hi e
theorem inv_cpy {h : dH} (I : InvC h) {s sp d dp n : Nat} (hb : ∀ k, bndC d k = none) : InvC (dcopy h s sp d dp n) := by
  intro b j lo hi e
  unfold dcopy
  by_cases hn : b = d ∧ dp ≤ j ∧ j < dp + n
  · rw [hn.1, hb] at e; cases e
  · rw [if_neg hn]; exact I b j lo hi e
theorem dcopy_ne {h : dH} {s sp d dp n a k : Nat} (hn : ¬ a = d) : dcopy h s sp d dp n a k = h a k := if_neg fun e => hn e.1
theorem invM_free {h : dH} (I : InvM h) {a k : Nat} {x : Int32} (hb : bndM a k = none) (h14 : ¬ a = 14) (h16 : ¬ a = 16) : InvM (dU h a k x) := by
  refine ⟨fun b j lo hi e => ?_, fun s hs => ?_⟩
  · by_cases hn : b = a ∧ j = k
    · obtain ⟨rfl, rfl⟩ := hn
      rw [hb] at e; cases e
    · rw [dU_ne hn]; exact I.1 b j lo hi e
  · rw [dU_ne (by omega), dU_ne (by omega)]; exact I.2 s hs
theorem invM_set {h : dH} (I : InvM h) {a k : Nat} {x : Int32} {l u : Int} (hb : bndM a k = some (l, u)) (hx : l ≤ x.toInt ∧ x.toInt ≤ u) (h14 : ¬ a = 14) (h16 : ¬ a = 16) : InvM (dU h a k x) := by
  refine ⟨fun b j lo hi e => ?_, fun s hs => ?_⟩
  · by_cases hn : b = a ∧ j = k
    · obtain ⟨rfl, rfl⟩ := hn
      rw [hb] at e; cases e
      rw [dU_eq]; exact hx
    · rw [dU_ne hn]; exact I.1 b j lo hi e
  · rw [dU_ne (by omega), dU_ne (by omega)]; exact I.2 s hs
theorem bS2 {s : Nat} (h : zS s) : bndC s 2 = some (0, 8) := by rcases h with rfl | rfl | rfl <;> rfl
theorem fS {s k : Nat} (h : zS s) (hk : ¬ k = 2) : bndC s k = none := by
  rcases h with rfl | rfl | rfl <;> exact if_neg hk
theorem fS1 {s k : Nat} (h : zS s) : bndC (s + 1) k = none := by rcases h with rfl | rfl | rfl <;> rfl
theorem fS2 {s k : Nat} (h : zS s) : bndC (s + 2) k = none := by rcases h with rfl | rfl | rfl <;> rfl
theorem fS3 {s k : Nat} (h : zS s) : bndC (s + 3) k = none := by rcases h with rfl | rfl | rfl <;> rfl
theorem fS13 {s k : Nat} (h : zS s) : bndC (s + 13) k = none := by rcases h with rfl | rfl | rfl <;> rfl
theorem fSr {s k i : Nat} (h : zS s) (hi : i < 8) : bndC (s + 5 + i) k = none := by
  have : i = 0 ∨ i = 1 ∨ i = 2 ∨ i = 3 ∨ i = 4 ∨ i = 5 ∨ i = 6 ∨ i = 7 := by omega
  rcases h with rfl | rfl | rfl <;> rcases this with rfl | rfl | rfl | rfl | rfl | rfl | rfl | rfl <;> rfl
theorem bT1 {t : Nat} (h : zT t) : bndC t 1 = some (0, 160) := by rcases h with rfl | rfl | rfl | rfl | rfl | rfl <;> rfl
theorem bT2 {t k : Nat} (h : zT t) : bndC (t + 2) k = some (0, 160) := by rcases h with rfl | rfl | rfl | rfl | rfl | rfl <;> rfl
theorem fT1 {t k : Nat} (h : zT t) : bndC (t + 1) k = none := by rcases h with rfl | rfl | rfl | rfl | rfl | rfl <;> rfl
theorem fT3 {t k : Nat} (h : zT t) : bndC (t + 3) k = none := by rcases h with rfl | rfl | rfl | rfl | rfl | rfl <;> rfl
theorem bW1 {w : Nat} (h : zW w) : bndC w 1 = some (0, 40) := by rcases h with rfl | rfl | rfl | rfl <;> rfl
theorem fW0 {w : Nat} (h : zW w) : bndC w 0 = none := by rcases h with rfl | rfl | rfl | rfl <;> rfl
theorem fW1 {w k : Nat} (h : zW w) : bndC (w + 1) k = none := by rcases h with rfl | rfl | rfl | rfl <;> rfl
theorem fuel0_eq : ((fuel0 : Nat) : Int) = 1000 := rfl
theorem dmax_ok (x y : Int32) : x.toInt ≤ (dmax x y).toInt ∧ y.toInt ≤ (dmax x y).toInt ∧ ((dmax x y).toInt = x.toInt ∨ (dmax x y).toInt = y.toInt) := by
  unfold dmax
  by_cases h : x < y
  · rw [if_pos h]; have := Int32.lt_iff_toInt_lt.mp h; omega
  · rw [if_neg h]; have : ¬ x.toInt < y.toInt := fun e => h (Int32.lt_iff_toInt_lt.mpr e)
    omega
theorem dmin_ok (x y : Int32) : (dmin x y).toInt ≤ x.toInt ∧ (dmin x y).toInt ≤ y.toInt ∧ ((dmin x y).toInt = x.toInt ∨ (dmin x y).toInt = y.toInt) := by
  unfold dmin
  by_cases h : y < x
  · rw [if_pos h]; have := Int32.lt_iff_toInt_lt.mp h; omega
  · rw [if_neg h]; have : ¬ y.toInt < x.toInt := fun e => h (Int32.lt_iff_toInt_lt.mpr e)
    omega
theorem dlcmp_ok (a b : Int64) : ((dlcmp a b).toInt < 0 ↔ a.toInt < b.toInt) ∧ (0 < (dlcmp a b).toInt ↔ b.toInt < a.toInt) ∧ ((dlcmp a b).toInt = 0 ↔ a.toInt = b.toInt) := by
  unfold dlcmp
  have e1 : (-1 : Int32).toInt = -1 := by decide
  have e2 : (1 : Int32).toInt = 1 := by decide
  have e3 : (0 : Int32).toInt = 0 := by decide
  by_cases h : a.toInt < b.toInt
  · rw [if_pos h, e1]; omega
  · rw [if_neg h]
    by_cases h2 : b.toInt < a.toInt
    · rw [if_pos h2, e2]; omega
    · rw [if_neg h2, e3]; omega
theorem nat9 {P : Int32 → Prop} (h : ∀ k : Fin 9, P (Int32.ofNat k.val)) {y : Int32} (h0 : 0 ≤ y.toInt) (h8 : y.toInt ≤ 8) : P y := by
  have := h ⟨y.toInt.toNat, by omega⟩
  rw [i32_nat h0] at this
  exact this
theorem dshl1_ok {y : Int32} (h0 : 0 ≤ y.toInt) (h8 : y.toInt ≤ 8) : 1 ≤ (dshl 1 y).toInt ∧ (dshl 1 y).toInt ≤ 256 ∧ (y.toInt ≤ 7 → (dshl 1 y).toInt ≤ 128) :=
  nat9 (P := fun y => 1 ≤ (dshl 1 y).toInt ∧ (dshl 1 y).toInt ≤ 256 ∧ (y.toInt ≤ 7 → (dshl 1 y).toInt ≤ 128)) (by decide +kernel) h0 h8
theorem s_J0_length_8abf5 (a0 : Nat) (ha0 : zStr a0) : Sf (f_J0_length_8abf5 a0) (fun r => r.toInt = (strOf a0).length ∧ r.toInt ≤ 40) := by
  refine sf_some ?_
  have : (strOf a0).length ≤ 40 := by
    rcases zStr_or ha0 with rfl | rfl | rfl | rfl | rfl | rfl | rfl | rfl | rfl | rfl | rfl | rfl | rfl <;> simp only [xSo0, xSo1, xSo2, xSo3, xSo4, xSo5, xSo6, xSo7, xSo8, xSo9, xSo10, xSo11, xSo12] <;> decide
  rw [Int32.toInt_ofNat_of_lt (by omega)]
  omega
theorem s_J0_charAt_5068e (a0 : Nat) (ha0 : zStr a0) (v1 : Int32) (hb : 0 ≤ v1.toInt ∧ v1.toInt < (strOf a0).length) : Sf (f_J0_charAt_5068e a0 v1) (fun _ => True) := by
  refine ⟨_, if_pos hb, trivial⟩
theorem bm64 {z : Int} (h1 : -9223372036854775808 ≤ z) (h2 : z < 9223372036854775808) : z.bmod (2 ^ 64) = z := by
  rw [show (2 : Nat) ^ 64 = 18446744073709551616 from rfl]
  rw [Int.bmod_eq_of_le (by omega) (by omega)]
theorem l_add {a b : Int64} {A B : Int} (ha : a.toInt = A) (hb : b.toInt = B) (h1 : -9223372036854775808 ≤ A + B) (h2 : A + B < 9223372036854775808) : (a + b).toInt = A + B := by
  subst ha hb
  rw [Int64.toInt_add, bm64 h1 h2]
theorem l_sub {a b : Int64} {A B : Int} (ha : a.toInt = A) (hb : b.toInt = B) (h1 : -9223372036854775808 ≤ A - B) (h2 : A - B < 9223372036854775808) : (a - b).toInt = A - B := by
  subst ha hb
  rw [Int64.toInt_sub, bm64 h1 h2]
theorem l_mul {a b : Int64} {A B : Int} (ha : a.toInt = A) (hb : b.toInt = B) (h1 : -9223372036854775808 ≤ A * B) (h2 : A * B < 9223372036854775808) : (a * b).toInt = A * B := by
  subst ha hb
  rw [Int64.toInt_mul, bm64 h1 h2]
def InvP (h : dH) : Prop := 0 ≤ (h 0 20).toInt ∧ (h 0 20).toInt ≤ 800 ∧ 0 ≤ (h 0 21).toInt ∧ (h 0 21).toInt ≤ 160 ∧ 0 ≤ (h 0 24).toInt ∧ (h 0 24).toInt ≤ (h 0 22).toInt ∧ (h 0 22).toInt ≤ (h 0 21).toInt ∧ ((h 0 23).toInt = 3 → (h 0 24).toInt < (h 0 22).toInt)
def InvQ (h : dH) : Prop := InvM h ∧ InvP h
theorem invQ_free {h : dH} (I : InvQ h) {k : Nat} {x : Int32} (hb : bndM 0 k = none) (hk : ¬ k = 20 ∧ ¬ k = 21 ∧ ¬ k = 22 ∧ ¬ k = 23 ∧ ¬ k = 24) : InvQ (dU h 0 k x) := by
  refine ⟨invM_free I.1 hb (by omega) (by omega), ?_⟩
  unfold InvP
  rw [dU_ne (by omega), dU_ne (by omega), dU_ne (by omega), dU_ne (by omega), dU_ne (by omega)]
  exact I.2
theorem pq24 {h : dH} (I : InvQ h) : 0 ≤ (h 0 24).toInt ∧ (h 0 24).toInt ≤ 160 := by
  have p : InvP h := I.2
  unfold InvP at p
  omega
theorem lrem_ok {x y : Int64} (h0 : 0 ≤ x.toInt) (hy : 0 < y.toInt) (hx : x.toInt ≤ 1000) : 0 ≤ (x - x / y * y).toInt ∧ (x - x / y * y).toInt < y.toInt := by
  have hd : (x / y).toInt = x.toInt / y.toInt := by
    rw [Int64.toInt_div, Int.tdiv_eq_ediv_of_nonneg h0]
    have : 0 ≤ x.toInt / y.toInt := Int.ediv_nonneg h0 (by omega)
    have : x.toInt / y.toInt ≤ x.toInt := Int.ediv_le_self _ h0
    exact bm64 (by omega) (by omega)
  have hm : x.toInt / y.toInt * y.toInt + x.toInt % y.toInt = x.toInt := by
    rw [Int.mul_comm]; exact Int.mul_ediv_add_emod x.toInt y.toInt
  have h1 := Int.emod_nonneg x.toInt (show y.toInt ≠ 0 by omega)
  have h2 := Int.emod_lt_of_pos x.toInt hy
  have hq : 0 ≤ x.toInt / y.toInt * y.toInt := Int.mul_nonneg (Int.ediv_nonneg h0 (by omega)) (by omega)
  have hp : (x / y * y).toInt = x.toInt / y.toInt * y.toInt := by
    have := l_mul (a := x / y) (b := y) hd rfl (by omega) (by omega)
    exact this
  have := l_sub (a := x) (b := x / y * y) rfl hp (by omega) (by omega)
  rw [this]
  omega
end
end
