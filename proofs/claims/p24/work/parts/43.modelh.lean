/-! X7_sheet, X7_film, X7_friendsBy, X7_drawn, X7_chance, X7_image, X7_back, X7_count, X7_cell, X7_copy, X7_houses, X7_over (by program) -/
noncomputable section
def l_X7_sheet_77 (v1 : Int32) (v2 : Int32) (v3 : Int32) (k : dH → Option (Int32 × dH)) : Nat → Int32 → dH → Option (Int32 × dH)
  | 0, _, _ => none
  | n + 1, v4, h => if v4.toInt < v3.toInt then (if v2.toInt < 0 then (k  h) else (if 0 ≤ ((40 * v1) + v4).toInt ∧ ((40 * v1) + v4).toInt < 160 then (oH (dU h 17 (((40 * v1) + v4).toInt.toNat) 0) (fun g23 => l_X7_sheet_77 v1 v2 v3 k n (v4 + 1) g23)) else none)) else (k  h)
theorem lz_X7_sheet_77 {d : Nat} (hd : 2 ≤ d) (v1 : Int32) (v2 : Int32) (v3 : Int32) (k : dH → Option (Int32 × dH)) (hk : ∀ (w4 : Int32) (h : dH), dY shM d mj227 dI (k h) 106 [some (.ref 0), some (.int v1), some (.int v2), some (.int v3), some (.int w4)] [] h) : ∀ (n : Nat) (v4 : Int32) (h : dH), dY shM d mj227 dI (l_X7_sheet_77 v1 v2 v3 k n v4 h) 77 [some (.ref 0), some (.int v1), some (.int v2), some (.int v3), some (.int v4)] [] h
  | 0, _, _ => dY_none
  | n + 1, v4, h => by
    rw [l_X7_sheet_77]
    refine y_iload (q := 79) rfl rfl rfl ?_
    refine y_iload_n (q := 80) rfl rfl rfl ?_
    refine y_ge (q := 106) (q' := 83) rfl rfl rfl rfl rfl (fun c19 => ?_) (fun c20 => ?_)
    · skip
      refine y_iload_n (q := 84) rfl rfl rfl ?_
      refine y_lt0 (q := 106) (q' := 87) rfl rfl rfl rfl (fun c21 => ?_) (fun c22 => ?_)
      · skip
        exact hk  v4 h
      · skip
        refine y_aload_n (q := 88) rfl rfl rfl ?_
        refine y_getR (b := 17) (q := 91) rfl rfl (by decide) atM0 rfl rfl ?_
        refine y_bipush (x := 40) (q := 93) rfl (by decide) rfl ?_
        refine y_iload_n (q := 94) rfl rfl rfl ?_
        refine y_imul (q := 95) rfl rfl ?_
        refine y_iload (q := 97) rfl rfl rfl ?_
        refine y_iadd (q := 98) rfl rfl ?_
        refine y_iconst (x := 0) (q := 99) rfl (by decide) rfl ?_
        refine y_guard (fun c24 => ?_)
        refine y_iast (n := 160) (N := 160) (X := ((40 * v1) + v4).toInt) (K := ((40 * v1) + v4).toInt.toNat) (q := 100) rfl atM17 rfl rfl c24 rfl rfl (fun g23 => ?_)
        refine y_iinc (z := (v4 + 1)) (lo' := [some (.ref 0), some (.int v1), some (.int v2), some (.int v3), some (.int (v4 + 1))]) (q := 103) rfl rfl (Nat.le_of_ble_eq_true rfl) (by rw [oi_1]) rfl rfl ?_
        refine y_goto (q := 77) rfl rfl ?_
        exact lz_X7_sheet_77 hd v1 v2 v3 k hk n (v4 + 1) g23 
    · skip
      exact hk  v4 h
def f_X7_sheet (v1 : Int32) (v2 : Int32) (v3 : Int32) (h : dH) : Option (Int32 × dH) := oP (f_X7_isSheet v1) (fun r1 => if r1.toInt = 0 then (some ((-2), h)) else (oP (f_X7_in (v2.toInt64) (-1) 2) (fun r4 => if r4.toInt = 0 then (some ((-2), h)) else (if v2.toInt < 0 then (if v2.toInt < 0 then (if v2.toInt < 0 then (if 0 ≤ v1.toInt ∧ v1.toInt < 4 then (oH (dU h 14 (v1.toInt.toNat) (vp_nar .boolean 0)) (fun g13 => if 0 ≤ v1.toInt ∧ v1.toInt < 4 then (oH (dU g13 15 (v1.toInt.toNat) v2) (fun g15 => if 0 ≤ v1.toInt ∧ v1.toInt < 4 then (oH (dU g15 16 (v1.toInt.toNat) v3) (fun g17 => l_X7_sheet_77 v1 v2 v3  (fun g26 => some (1, g26)) fuel0 0 g17)) else none)) else none)) else none) else (if 0 ≤ v1.toInt ∧ v1.toInt < 4 then (oH (dU h 14 (v1.toInt.toNat) (vp_nar .boolean 1)) (fun g27 => if 0 ≤ v1.toInt ∧ v1.toInt < 4 then (oH (dU g27 15 (v1.toInt.toNat) v2) (fun g29 => if 0 ≤ v1.toInt ∧ v1.toInt < 4 then (oH (dU g29 16 (v1.toInt.toNat) v3) (fun g31 => l_X7_sheet_77 v1 v2 v3  (fun g34 => some (1, g34)) fuel0 0 g31)) else none)) else none)) else none)) else (if v3.toInt < 0 then (some ((-14), h)) else (if v2.toInt < 0 then (if 0 ≤ v1.toInt ∧ v1.toInt < 4 then (oH (dU h 14 (v1.toInt.toNat) (vp_nar .boolean 0)) (fun g39 => if 0 ≤ v1.toInt ∧ v1.toInt < 4 then (oH (dU g39 15 (v1.toInt.toNat) v2) (fun g41 => if 0 ≤ v1.toInt ∧ v1.toInt < 4 then (oH (dU g41 16 (v1.toInt.toNat) v3) (fun g43 => l_X7_sheet_77 v1 v2 v3  (fun g46 => some (1, g46)) fuel0 0 g43)) else none)) else none)) else none) else (if 0 ≤ v1.toInt ∧ v1.toInt < 4 then (oH (dU h 14 (v1.toInt.toNat) (vp_nar .boolean 1)) (fun g47 => if 0 ≤ v1.toInt ∧ v1.toInt < 4 then (oH (dU g47 15 (v1.toInt.toNat) v2) (fun g49 => if 0 ≤ v1.toInt ∧ v1.toInt < 4 then (oH (dU g49 16 (v1.toInt.toNat) v3) (fun g51 => l_X7_sheet_77 v1 v2 v3  (fun g54 => some (1, g54)) fuel0 0 g51)) else none)) else none)) else none)))) else (if 40 < v3.toInt then (some ((-2), h)) else (if v2.toInt < 0 then (if v2.toInt < 0 then (if 0 ≤ v1.toInt ∧ v1.toInt < 4 then (oH (dU h 14 (v1.toInt.toNat) (vp_nar .boolean 0)) (fun g61 => if 0 ≤ v1.toInt ∧ v1.toInt < 4 then (oH (dU g61 15 (v1.toInt.toNat) v2) (fun g63 => if 0 ≤ v1.toInt ∧ v1.toInt < 4 then (oH (dU g63 16 (v1.toInt.toNat) v3) (fun g65 => l_X7_sheet_77 v1 v2 v3  (fun g68 => some (1, g68)) fuel0 0 g65)) else none)) else none)) else none) else (if 0 ≤ v1.toInt ∧ v1.toInt < 4 then (oH (dU h 14 (v1.toInt.toNat) (vp_nar .boolean 1)) (fun g69 => if 0 ≤ v1.toInt ∧ v1.toInt < 4 then (oH (dU g69 15 (v1.toInt.toNat) v2) (fun g71 => if 0 ≤ v1.toInt ∧ v1.toInt < 4 then (oH (dU g71 16 (v1.toInt.toNat) v3) (fun g73 => l_X7_sheet_77 v1 v2 v3  (fun g76 => some (1, g76)) fuel0 0 g73)) else none)) else none)) else none)) else (if v3.toInt < 0 then (some ((-14), h)) else (if v2.toInt < 0 then (if 0 ≤ v1.toInt ∧ v1.toInt < 4 then (oH (dU h 14 (v1.toInt.toNat) (vp_nar .boolean 0)) (fun g81 => if 0 ≤ v1.toInt ∧ v1.toInt < 4 then (oH (dU g81 15 (v1.toInt.toNat) v2) (fun g83 => if 0 ≤ v1.toInt ∧ v1.toInt < 4 then (oH (dU g83 16 (v1.toInt.toNat) v3) (fun g85 => l_X7_sheet_77 v1 v2 v3  (fun g88 => some (1, g88)) fuel0 0 g85)) else none)) else none)) else none) else (if 0 ≤ v1.toInt ∧ v1.toInt < 4 then (oH (dU h 14 (v1.toInt.toNat) (vp_nar .boolean 1)) (fun g89 => if 0 ≤ v1.toInt ∧ v1.toInt < 4 then (oH (dU g89 15 (v1.toInt.toNat) v2) (fun g91 => if 0 ≤ v1.toInt ∧ v1.toInt < 4 then (oH (dU g91 16 (v1.toInt.toNat) v3) (fun g93 => l_X7_sheet_77 v1 v2 v3  (fun g96 => some (1, g96)) fuel0 0 g93)) else none)) else none)) else none)))))))))
theorem m_X7_sheet {d : Nat} (hd : 3 ≤ d) (v1 : Int32) (v2 : Int32) (v3 : Int32) (h : dH) : dX shM d 227 [.ref 0, .int v1, .int v2, .int v3] dI (f_X7_sheet v1 v2 v3 h) h := by
  obtain ⟨e, rfl⟩ : ∃ e, d = e + 1 := ⟨d - 1, by omega⟩
  have hd : 2 ≤ e := by omega
  refine dX_of (mj := mj227) (lo := [some (.ref 0), some (.int v1), some (.int v2), some (.int v3), none]) rfl (Nat.le_of_ble_eq_true rfl) rfl ?_
  unfold f_X7_sheet
  refine y_iload_n (q := 1) rfl rfl rfl ?_
  refine y_callP (I := .invokestatic 436) (idx := 436) (KD := 0) (J := 236) (mj := mj226) (as := [.int v1]) (r := []) (q := 4) rfl (fun _ _ _ _ _ _ => rfl) rfl (by decide) rfl rfl rfl rfl rfl (Nat.le_of_ble_eq_true rfl) rfl rfl (m_X7_isSheet (Nat.le_trans (by decide) hd) v1 h) (fun r1 => ?_)
  refine y_eq0 (q := 31) (q' := 7) rfl rfl rfl rfl (fun c2 => ?_) (fun c3 => ?_)
  · skip
    refine y_bipush (x := (-2)) (q := 33) rfl (by decide) rfl ?_
    exact y_retI rfl (by decide) rfl rfl
  · skip
    refine y_iload_n (q := 8) rfl rfl rfl ?_
    refine y_i2l (q := 9) rfl rfl ?_
    refine y_ldc2_w (u := (-1)) (q := 12) rfl rfl rfl ?_
    refine y_ldc2_w (u := 2) (q := 15) rfl rfl rfl ?_
    refine y_callP (I := .invokestatic 91) (idx := 91) (KD := 0) (J := 128) (mj := mj118) (as := [.long v2.toInt64, .long (-1), .long 2]) (r := []) (q := 18) rfl (fun _ _ _ _ _ _ => rfl) rfl (by decide) rfl rfl rfl rfl rfl (Nat.le_of_ble_eq_true rfl) rfl rfl (m_X7_in (Nat.le_trans (by decide) hd) (v2.toInt64) (-1) 2 h) (fun r4 => ?_)
    refine y_eq0 (q := 31) (q' := 21) rfl rfl rfl rfl (fun c5 => ?_) (fun c6 => ?_)
    · skip
      refine y_bipush (x := (-2)) (q := 33) rfl (by decide) rfl ?_
      exact y_retI rfl (by decide) rfl rfl
    · skip
      refine y_iload_n (q := 22) rfl rfl rfl ?_
      refine y_lt0 (q := 34) (q' := 25) rfl rfl rfl rfl (fun c7 => ?_) (fun c8 => ?_)
      · skip
        refine y_iload_n (q := 35) rfl rfl rfl ?_
        refine y_lt0 (q := 45) (q' := 38) rfl rfl rfl rfl (fun c9 => ?_) (fun c10 => ?_)
        · skip
          refine y_aload_n (q := 46) rfl rfl rfl ?_
          refine y_getR (b := 14) (q := 49) rfl rfl (by decide) atM0 rfl rfl ?_
          refine y_iload_n (q := 50) rfl rfl rfl ?_
          refine y_iload_n (q := 51) rfl rfl rfl ?_
          refine y_lt0 (q := 58) (q' := 54) rfl rfl rfl rfl (fun c11 => ?_) (fun c12 => ?_)
          · skip
            refine y_iconst (x := 0) (q := 59) rfl (by decide) rfl ?_
            refine y_guard (fun c14 => ?_)
            refine y_bast (n := 4) (N := 4) (X := v1.toInt) (K := v1.toInt.toNat) (q := 60) rfl atM14 rfl rfl c14 rfl rfl (fun g13 => ?_)
            refine y_aload_n (q := 61) rfl rfl rfl ?_
            refine y_getR (b := 15) (q := 64) rfl rfl (by decide) atM0 rfl rfl ?_
            refine y_iload_n (q := 65) rfl rfl rfl ?_
            refine y_iload_n (q := 66) rfl rfl rfl ?_
            refine y_guard (fun c16 => ?_)
            refine y_iast (n := 4) (N := 4) (X := v1.toInt) (K := v1.toInt.toNat) (q := 67) rfl atM15 rfl rfl c16 rfl rfl (fun g15 => ?_)
            refine y_aload_n (q := 68) rfl rfl rfl ?_
            refine y_getR (b := 16) (q := 71) rfl rfl (by decide) atM0 rfl rfl ?_
            refine y_iload_n (q := 72) rfl rfl rfl ?_
            refine y_iload_n (q := 73) rfl rfl rfl ?_
            refine y_guard (fun c18 => ?_)
            refine y_iast (n := 4) (N := 4) (X := v1.toInt) (K := v1.toInt.toNat) (q := 74) rfl atM16 rfl rfl c18 rfl rfl (fun g17 => ?_)
            refine y_iconst (x := 0) (q := 75) rfl (by decide) rfl ?_
            refine y_istore (lo' := [some (.ref 0), some (.int v1), some (.int v2), some (.int v3), some (.int 0)]) (q := 77) rfl (Nat.le_of_ble_eq_true rfl) rfl rfl ?_
            refine lz_X7_sheet_77 hd v1 v2 v3  _ (fun z25 g26 => ?_) fuel0 0 g17 
            refine y_iconst (x := 1) (q := 107) rfl (by decide) rfl ?_
            exact y_retI rfl (by decide) rfl rfl
          · skip
            refine y_iconst (x := 1) (q := 55) rfl (by decide) rfl ?_
            refine y_goto (q := 59) rfl rfl ?_
            refine y_guard (fun c28 => ?_)
            refine y_bast (n := 4) (N := 4) (X := v1.toInt) (K := v1.toInt.toNat) (q := 60) rfl atM14 rfl rfl c28 rfl rfl (fun g27 => ?_)
            refine y_aload_n (q := 61) rfl rfl rfl ?_
            refine y_getR (b := 15) (q := 64) rfl rfl (by decide) atM0 rfl rfl ?_
            refine y_iload_n (q := 65) rfl rfl rfl ?_
            refine y_iload_n (q := 66) rfl rfl rfl ?_
            refine y_guard (fun c30 => ?_)
            refine y_iast (n := 4) (N := 4) (X := v1.toInt) (K := v1.toInt.toNat) (q := 67) rfl atM15 rfl rfl c30 rfl rfl (fun g29 => ?_)
            refine y_aload_n (q := 68) rfl rfl rfl ?_
            refine y_getR (b := 16) (q := 71) rfl rfl (by decide) atM0 rfl rfl ?_
            refine y_iload_n (q := 72) rfl rfl rfl ?_
            refine y_iload_n (q := 73) rfl rfl rfl ?_
            refine y_guard (fun c32 => ?_)
            refine y_iast (n := 4) (N := 4) (X := v1.toInt) (K := v1.toInt.toNat) (q := 74) rfl atM16 rfl rfl c32 rfl rfl (fun g31 => ?_)
            refine y_iconst (x := 0) (q := 75) rfl (by decide) rfl ?_
            refine y_istore (lo' := [some (.ref 0), some (.int v1), some (.int v2), some (.int v3), some (.int 0)]) (q := 77) rfl (Nat.le_of_ble_eq_true rfl) rfl rfl ?_
            refine lz_X7_sheet_77 hd v1 v2 v3  _ (fun z33 g34 => ?_) fuel0 0 g31 
            refine y_iconst (x := 1) (q := 107) rfl (by decide) rfl ?_
            exact y_retI rfl (by decide) rfl rfl
        · skip
          refine y_iload_n (q := 39) rfl rfl rfl ?_
          refine y_ge0 (q := 45) (q' := 42) rfl rfl rfl rfl (fun c35 => ?_) (fun c36 => ?_)
          · skip
            refine y_bipush (x := (-14)) (q := 44) rfl (by decide) rfl ?_
            exact y_retI rfl (by decide) rfl rfl
          · skip
            refine y_aload_n (q := 46) rfl rfl rfl ?_
            refine y_getR (b := 14) (q := 49) rfl rfl (by decide) atM0 rfl rfl ?_
            refine y_iload_n (q := 50) rfl rfl rfl ?_
            refine y_iload_n (q := 51) rfl rfl rfl ?_
            refine y_lt0 (q := 58) (q' := 54) rfl rfl rfl rfl (fun c37 => ?_) (fun c38 => ?_)
            · skip
              refine y_iconst (x := 0) (q := 59) rfl (by decide) rfl ?_
              refine y_guard (fun c40 => ?_)
              refine y_bast (n := 4) (N := 4) (X := v1.toInt) (K := v1.toInt.toNat) (q := 60) rfl atM14 rfl rfl c40 rfl rfl (fun g39 => ?_)
              refine y_aload_n (q := 61) rfl rfl rfl ?_
              refine y_getR (b := 15) (q := 64) rfl rfl (by decide) atM0 rfl rfl ?_
              refine y_iload_n (q := 65) rfl rfl rfl ?_
              refine y_iload_n (q := 66) rfl rfl rfl ?_
              refine y_guard (fun c42 => ?_)
              refine y_iast (n := 4) (N := 4) (X := v1.toInt) (K := v1.toInt.toNat) (q := 67) rfl atM15 rfl rfl c42 rfl rfl (fun g41 => ?_)
              refine y_aload_n (q := 68) rfl rfl rfl ?_
              refine y_getR (b := 16) (q := 71) rfl rfl (by decide) atM0 rfl rfl ?_
              refine y_iload_n (q := 72) rfl rfl rfl ?_
              refine y_iload_n (q := 73) rfl rfl rfl ?_
              refine y_guard (fun c44 => ?_)
              refine y_iast (n := 4) (N := 4) (X := v1.toInt) (K := v1.toInt.toNat) (q := 74) rfl atM16 rfl rfl c44 rfl rfl (fun g43 => ?_)
              refine y_iconst (x := 0) (q := 75) rfl (by decide) rfl ?_
              refine y_istore (lo' := [some (.ref 0), some (.int v1), some (.int v2), some (.int v3), some (.int 0)]) (q := 77) rfl (Nat.le_of_ble_eq_true rfl) rfl rfl ?_
              refine lz_X7_sheet_77 hd v1 v2 v3  _ (fun z45 g46 => ?_) fuel0 0 g43 
              refine y_iconst (x := 1) (q := 107) rfl (by decide) rfl ?_
              exact y_retI rfl (by decide) rfl rfl
            · skip
              refine y_iconst (x := 1) (q := 55) rfl (by decide) rfl ?_
              refine y_goto (q := 59) rfl rfl ?_
              refine y_guard (fun c48 => ?_)
              refine y_bast (n := 4) (N := 4) (X := v1.toInt) (K := v1.toInt.toNat) (q := 60) rfl atM14 rfl rfl c48 rfl rfl (fun g47 => ?_)
              refine y_aload_n (q := 61) rfl rfl rfl ?_
              refine y_getR (b := 15) (q := 64) rfl rfl (by decide) atM0 rfl rfl ?_
              refine y_iload_n (q := 65) rfl rfl rfl ?_
              refine y_iload_n (q := 66) rfl rfl rfl ?_
              refine y_guard (fun c50 => ?_)
              refine y_iast (n := 4) (N := 4) (X := v1.toInt) (K := v1.toInt.toNat) (q := 67) rfl atM15 rfl rfl c50 rfl rfl (fun g49 => ?_)
              refine y_aload_n (q := 68) rfl rfl rfl ?_
              refine y_getR (b := 16) (q := 71) rfl rfl (by decide) atM0 rfl rfl ?_
              refine y_iload_n (q := 72) rfl rfl rfl ?_
              refine y_iload_n (q := 73) rfl rfl rfl ?_
              refine y_guard (fun c52 => ?_)
              refine y_iast (n := 4) (N := 4) (X := v1.toInt) (K := v1.toInt.toNat) (q := 74) rfl atM16 rfl rfl c52 rfl rfl (fun g51 => ?_)
              refine y_iconst (x := 0) (q := 75) rfl (by decide) rfl ?_
              refine y_istore (lo' := [some (.ref 0), some (.int v1), some (.int v2), some (.int v3), some (.int 0)]) (q := 77) rfl (Nat.le_of_ble_eq_true rfl) rfl rfl ?_
              refine lz_X7_sheet_77 hd v1 v2 v3  _ (fun z53 g54 => ?_) fuel0 0 g51 
              refine y_iconst (x := 1) (q := 107) rfl (by decide) rfl ?_
              exact y_retI rfl (by decide) rfl rfl
      · skip
        refine y_iload_n (q := 26) rfl rfl rfl ?_
        refine y_bipush (x := 40) (q := 28) rfl (by decide) rfl ?_
        refine y_le (q := 34) (q' := 31) rfl rfl (by decide) rfl rfl (fun c55 => ?_) (fun c56 => ?_)
        · skip
          refine y_bipush (x := (-2)) (q := 33) rfl (by decide) rfl ?_
          exact y_retI rfl (by decide) rfl rfl
        · skip
          refine y_iload_n (q := 35) rfl rfl rfl ?_
          refine y_lt0 (q := 45) (q' := 38) rfl rfl rfl rfl (fun c57 => ?_) (fun c58 => ?_)
          · skip
            refine y_aload_n (q := 46) rfl rfl rfl ?_
            refine y_getR (b := 14) (q := 49) rfl rfl (by decide) atM0 rfl rfl ?_
            refine y_iload_n (q := 50) rfl rfl rfl ?_
            refine y_iload_n (q := 51) rfl rfl rfl ?_
            refine y_lt0 (q := 58) (q' := 54) rfl rfl rfl rfl (fun c59 => ?_) (fun c60 => ?_)
            · skip
              refine y_iconst (x := 0) (q := 59) rfl (by decide) rfl ?_
              refine y_guard (fun c62 => ?_)
              refine y_bast (n := 4) (N := 4) (X := v1.toInt) (K := v1.toInt.toNat) (q := 60) rfl atM14 rfl rfl c62 rfl rfl (fun g61 => ?_)
              refine y_aload_n (q := 61) rfl rfl rfl ?_
              refine y_getR (b := 15) (q := 64) rfl rfl (by decide) atM0 rfl rfl ?_
              refine y_iload_n (q := 65) rfl rfl rfl ?_
              refine y_iload_n (q := 66) rfl rfl rfl ?_
              refine y_guard (fun c64 => ?_)
              refine y_iast (n := 4) (N := 4) (X := v1.toInt) (K := v1.toInt.toNat) (q := 67) rfl atM15 rfl rfl c64 rfl rfl (fun g63 => ?_)
              refine y_aload_n (q := 68) rfl rfl rfl ?_
              refine y_getR (b := 16) (q := 71) rfl rfl (by decide) atM0 rfl rfl ?_
              refine y_iload_n (q := 72) rfl rfl rfl ?_
              refine y_iload_n (q := 73) rfl rfl rfl ?_
              refine y_guard (fun c66 => ?_)
              refine y_iast (n := 4) (N := 4) (X := v1.toInt) (K := v1.toInt.toNat) (q := 74) rfl atM16 rfl rfl c66 rfl rfl (fun g65 => ?_)
              refine y_iconst (x := 0) (q := 75) rfl (by decide) rfl ?_
              refine y_istore (lo' := [some (.ref 0), some (.int v1), some (.int v2), some (.int v3), some (.int 0)]) (q := 77) rfl (Nat.le_of_ble_eq_true rfl) rfl rfl ?_
              refine lz_X7_sheet_77 hd v1 v2 v3  _ (fun z67 g68 => ?_) fuel0 0 g65 
              refine y_iconst (x := 1) (q := 107) rfl (by decide) rfl ?_
              exact y_retI rfl (by decide) rfl rfl
            · skip
              refine y_iconst (x := 1) (q := 55) rfl (by decide) rfl ?_
              refine y_goto (q := 59) rfl rfl ?_
              refine y_guard (fun c70 => ?_)
              refine y_bast (n := 4) (N := 4) (X := v1.toInt) (K := v1.toInt.toNat) (q := 60) rfl atM14 rfl rfl c70 rfl rfl (fun g69 => ?_)
              refine y_aload_n (q := 61) rfl rfl rfl ?_
              refine y_getR (b := 15) (q := 64) rfl rfl (by decide) atM0 rfl rfl ?_
              refine y_iload_n (q := 65) rfl rfl rfl ?_
              refine y_iload_n (q := 66) rfl rfl rfl ?_
              refine y_guard (fun c72 => ?_)
              refine y_iast (n := 4) (N := 4) (X := v1.toInt) (K := v1.toInt.toNat) (q := 67) rfl atM15 rfl rfl c72 rfl rfl (fun g71 => ?_)
              refine y_aload_n (q := 68) rfl rfl rfl ?_
              refine y_getR (b := 16) (q := 71) rfl rfl (by decide) atM0 rfl rfl ?_
              refine y_iload_n (q := 72) rfl rfl rfl ?_
              refine y_iload_n (q := 73) rfl rfl rfl ?_
              refine y_guard (fun c74 => ?_)
              refine y_iast (n := 4) (N := 4) (X := v1.toInt) (K := v1.toInt.toNat) (q := 74) rfl atM16 rfl rfl c74 rfl rfl (fun g73 => ?_)
              refine y_iconst (x := 0) (q := 75) rfl (by decide) rfl ?_
              refine y_istore (lo' := [some (.ref 0), some (.int v1), some (.int v2), some (.int v3), some (.int 0)]) (q := 77) rfl (Nat.le_of_ble_eq_true rfl) rfl rfl ?_
              refine lz_X7_sheet_77 hd v1 v2 v3  _ (fun z75 g76 => ?_) fuel0 0 g73 
              refine y_iconst (x := 1) (q := 107) rfl (by decide) rfl ?_
              exact y_retI rfl (by decide) rfl rfl
          · skip
            refine y_iload_n (q := 39) rfl rfl rfl ?_
            refine y_ge0 (q := 45) (q' := 42) rfl rfl rfl rfl (fun c77 => ?_) (fun c78 => ?_)
            · skip
              refine y_bipush (x := (-14)) (q := 44) rfl (by decide) rfl ?_
              exact y_retI rfl (by decide) rfl rfl
            · skip
              refine y_aload_n (q := 46) rfl rfl rfl ?_
              refine y_getR (b := 14) (q := 49) rfl rfl (by decide) atM0 rfl rfl ?_
              refine y_iload_n (q := 50) rfl rfl rfl ?_
              refine y_iload_n (q := 51) rfl rfl rfl ?_
              refine y_lt0 (q := 58) (q' := 54) rfl rfl rfl rfl (fun c79 => ?_) (fun c80 => ?_)
              · skip
                refine y_iconst (x := 0) (q := 59) rfl (by decide) rfl ?_
                refine y_guard (fun c82 => ?_)
                refine y_bast (n := 4) (N := 4) (X := v1.toInt) (K := v1.toInt.toNat) (q := 60) rfl atM14 rfl rfl c82 rfl rfl (fun g81 => ?_)
                refine y_aload_n (q := 61) rfl rfl rfl ?_
                refine y_getR (b := 15) (q := 64) rfl rfl (by decide) atM0 rfl rfl ?_
                refine y_iload_n (q := 65) rfl rfl rfl ?_
                refine y_iload_n (q := 66) rfl rfl rfl ?_
                refine y_guard (fun c84 => ?_)
                refine y_iast (n := 4) (N := 4) (X := v1.toInt) (K := v1.toInt.toNat) (q := 67) rfl atM15 rfl rfl c84 rfl rfl (fun g83 => ?_)
                refine y_aload_n (q := 68) rfl rfl rfl ?_
                refine y_getR (b := 16) (q := 71) rfl rfl (by decide) atM0 rfl rfl ?_
                refine y_iload_n (q := 72) rfl rfl rfl ?_
                refine y_iload_n (q := 73) rfl rfl rfl ?_
                refine y_guard (fun c86 => ?_)
                refine y_iast (n := 4) (N := 4) (X := v1.toInt) (K := v1.toInt.toNat) (q := 74) rfl atM16 rfl rfl c86 rfl rfl (fun g85 => ?_)
                refine y_iconst (x := 0) (q := 75) rfl (by decide) rfl ?_
                refine y_istore (lo' := [some (.ref 0), some (.int v1), some (.int v2), some (.int v3), some (.int 0)]) (q := 77) rfl (Nat.le_of_ble_eq_true rfl) rfl rfl ?_
                refine lz_X7_sheet_77 hd v1 v2 v3  _ (fun z87 g88 => ?_) fuel0 0 g85 
                refine y_iconst (x := 1) (q := 107) rfl (by decide) rfl ?_
                exact y_retI rfl (by decide) rfl rfl
              · skip
                refine y_iconst (x := 1) (q := 55) rfl (by decide) rfl ?_
                refine y_goto (q := 59) rfl rfl ?_
                refine y_guard (fun c90 => ?_)
                refine y_bast (n := 4) (N := 4) (X := v1.toInt) (K := v1.toInt.toNat) (q := 60) rfl atM14 rfl rfl c90 rfl rfl (fun g89 => ?_)
                refine y_aload_n (q := 61) rfl rfl rfl ?_
                refine y_getR (b := 15) (q := 64) rfl rfl (by decide) atM0 rfl rfl ?_
                refine y_iload_n (q := 65) rfl rfl rfl ?_
                refine y_iload_n (q := 66) rfl rfl rfl ?_
                refine y_guard (fun c92 => ?_)
                refine y_iast (n := 4) (N := 4) (X := v1.toInt) (K := v1.toInt.toNat) (q := 67) rfl atM15 rfl rfl c92 rfl rfl (fun g91 => ?_)
                refine y_aload_n (q := 68) rfl rfl rfl ?_
                refine y_getR (b := 16) (q := 71) rfl rfl (by decide) atM0 rfl rfl ?_
                refine y_iload_n (q := 72) rfl rfl rfl ?_
                refine y_iload_n (q := 73) rfl rfl rfl ?_
                refine y_guard (fun c94 => ?_)
                refine y_iast (n := 4) (N := 4) (X := v1.toInt) (K := v1.toInt.toNat) (q := 74) rfl atM16 rfl rfl c94 rfl rfl (fun g93 => ?_)
                refine y_iconst (x := 0) (q := 75) rfl (by decide) rfl ?_
                refine y_istore (lo' := [some (.ref 0), some (.int v1), some (.int v2), some (.int v3), some (.int 0)]) (q := 77) rfl (Nat.le_of_ble_eq_true rfl) rfl rfl ?_
                refine lz_X7_sheet_77 hd v1 v2 v3  _ (fun z95 g96 => ?_) fuel0 0 g93 
                refine y_iconst (x := 1) (q := 107) rfl (by decide) rfl ?_
                exact y_retI rfl (by decide) rfl rfl
def l_X7_film_39 (v1 : Int32) (v2 : Int32) (k : dH → Option (Int32 × dH)) : Nat → Int32 → dH → Option (Int32 × dH)
  | 0, _, _ => none
  | n + 1, v3, h => if v3.toInt < (h 0 13).toInt then (oP (f_X7_strengthOf v2 v3 h) (fun r13 => if 0 ≤ ((40 * v1) + v3).toInt ∧ ((40 * v1) + v3).toInt < 160 then (oH (dU h 17 (((40 * v1) + v3).toInt.toNat) r13) (fun g14 => l_X7_film_39 v1 v2 k n (v3 + 1) g14)) else none)) else (k  h)
theorem lz_X7_film_39 {d : Nat} (hd : 45 ≤ d) (v1 : Int32) (v2 : Int32) (k : dH → Option (Int32 × dH)) (hk : ∀ (w3 : Int32) (h : dH), dY shM d mj219 dI (k h) 70 [some (.ref 0), some (.int v1), some (.int v2), some (.int w3)] [] h) : ∀ (n : Nat) (v3 : Int32) (h : dH), dY shM d mj219 dI (l_X7_film_39 v1 v2 k n v3 h) 39 [some (.ref 0), some (.int v1), some (.int v2), some (.int v3)] [] h
  | 0, _, _ => dY_none
  | n + 1, v3, h => by
    rw [l_X7_film_39]
    refine y_iload_n (q := 40) rfl rfl rfl ?_
    refine y_aload_n (q := 41) rfl rfl rfl ?_
    refine y_getI (q := 44) rfl rfl (by decide) atM0 rfl rfl ?_
    refine y_ge (q := 70) (q' := 47) rfl rfl rfl rfl rfl (fun c11 => ?_) (fun c12 => ?_)
    · skip
      refine y_aload_n (q := 48) rfl rfl rfl ?_
      refine y_getR (b := 17) (q := 51) rfl rfl (by decide) atM0 rfl rfl ?_
      refine y_bipush (x := 40) (q := 53) rfl (by decide) rfl ?_
      refine y_iload_n (q := 54) rfl rfl rfl ?_
      refine y_imul (q := 55) rfl rfl ?_
      refine y_iload_n (q := 56) rfl rfl rfl ?_
      refine y_iadd (q := 57) rfl rfl ?_
      refine y_aload_n (q := 58) rfl rfl rfl ?_
      refine y_iload_n (q := 59) rfl rfl rfl ?_
      refine y_iload_n (q := 60) rfl rfl rfl ?_
      refine y_callP (I := .invokevirtual 139) (idx := 139) (KD := 1) (J := 136) (mj := mj126) (as := [.ref 0, .int v2, .int v3]) (r := [.int ((40 * v1) + v3), .ref 17]) (q := 63) rfl (fun _ _ _ _ _ _ => rfl) rfl (by decide) rfl rfl rfl rfl rfl (Nat.le_of_ble_eq_true rfl) (d_recv atM0 (by decide) (by decide)) rfl (m_X7_strengthOf (Nat.le_trans (by decide) hd) v2 v3 h) (fun r13 => ?_)
      refine y_guard (fun c15 => ?_)
      refine y_iast (n := 160) (N := 160) (X := ((40 * v1) + v3).toInt) (K := ((40 * v1) + v3).toInt.toNat) (q := 64) rfl atM17 rfl rfl c15 rfl rfl (fun g14 => ?_)
      refine y_iinc (z := (v3 + 1)) (lo' := [some (.ref 0), some (.int v1), some (.int v2), some (.int (v3 + 1))]) (q := 67) rfl rfl (Nat.le_of_ble_eq_true rfl) (by rw [oi_1]) rfl rfl ?_
      refine y_goto (q := 39) rfl rfl ?_
      exact lz_X7_film_39 hd v1 v2 k hk n (v3 + 1) g14 
    · skip
      exact hk  v3 h
def f_X7_film (v1 : Int32) (v2 : Int32) (h : dH) : Option (Int32 × dH) := oP (f_X7_isSheet v1) (fun r1 => if r1.toInt = 0 then (some ((-2), h)) else (oP (f_X7_isHouse v2 h) (fun r4 => if r4.toInt = 0 then (some ((-2), h)) else (oI (f_X7_sheet v1 0 (h 0 13) h) (fun r7 g8 => oV (f_X7_laysAside  g8) (fun g9 => oV (f_X7_feasts  g9) (fun g10 => l_X7_film_39 v1 v2  (fun g17 => oV (f_X7_laysBack  g17) (fun g18 => some ((g18 0 13), g18))) fuel0 0 g10)))))))
theorem m_X7_film {d : Nat} (hd : 46 ≤ d) (v1 : Int32) (v2 : Int32) (h : dH) : dX shM d 219 [.ref 0, .int v1, .int v2] dI (f_X7_film v1 v2 h) h := by
  obtain ⟨e, rfl⟩ : ∃ e, d = e + 1 := ⟨d - 1, by omega⟩
  have hd : 45 ≤ e := by omega
  refine dX_of (mj := mj219) (lo := [some (.ref 0), some (.int v1), some (.int v2), none]) rfl (Nat.le_of_ble_eq_true rfl) rfl ?_
  unfold f_X7_film
  refine y_iload_n (q := 1) rfl rfl rfl ?_
  refine y_callP (I := .invokestatic 436) (idx := 436) (KD := 0) (J := 236) (mj := mj226) (as := [.int v1]) (r := []) (q := 4) rfl (fun _ _ _ _ _ _ => rfl) rfl (by decide) rfl rfl rfl rfl rfl (Nat.le_of_ble_eq_true rfl) rfl rfl (m_X7_isSheet (Nat.le_trans (by decide) hd) v1 h) (fun r1 => ?_)
  refine y_eq0 (q := 15) (q' := 7) rfl rfl rfl rfl (fun c2 => ?_) (fun c3 => ?_)
  · skip
    refine y_bipush (x := (-2)) (q := 17) rfl (by decide) rfl ?_
    exact y_retI rfl (by decide) rfl rfl
  · skip
    refine y_aload_n (q := 8) rfl rfl rfl ?_
    refine y_iload_n (q := 9) rfl rfl rfl ?_
    refine y_callP (I := .invokevirtual 105) (idx := 105) (KD := 1) (J := 132) (mj := mj122) (as := [.ref 0, .int v2]) (r := []) (q := 12) rfl (fun _ _ _ _ _ _ => rfl) rfl (by decide) rfl rfl rfl rfl rfl (Nat.le_of_ble_eq_true rfl) (d_recv atM0 (by decide) (by decide)) rfl (m_X7_isHouse (Nat.le_trans (by decide) hd) v2 h) (fun r4 => ?_)
    refine y_ne0 (q := 18) (q' := 15) rfl rfl rfl rfl (fun c5 => ?_) (fun c6 => ?_)
    · skip
      refine y_bipush (x := (-2)) (q := 17) rfl (by decide) rfl ?_
      exact y_retI rfl (by decide) rfl rfl
    · skip
      refine y_aload_n (q := 19) rfl rfl rfl ?_
      refine y_iload_n (q := 20) rfl rfl rfl ?_
      refine y_iconst (x := 0) (q := 21) rfl (by decide) rfl ?_
      refine y_aload_n (q := 22) rfl rfl rfl ?_
      refine y_getI (q := 25) rfl rfl (by decide) atM0 rfl rfl ?_
      refine y_callI (I := .invokevirtual 448) (idx := 448) (KD := 1) (J := 237) (mj := mj227) (as := [.ref 0, .int v1, .int 0, .int (h 0 13)]) (r := []) (q := 28) rfl (fun _ _ _ _ _ _ => rfl) rfl (by decide) rfl rfl rfl rfl rfl (Nat.le_of_ble_eq_true rfl) (d_recv atM0 (by decide) (by decide)) rfl (m_X7_sheet (Nat.le_trans (by decide) hd) v1 0 (h 0 13) h) (fun r7 g8 => ?_)
      refine y_pop (q := 29) rfl rfl ?_
      refine y_aload_n (q := 30) rfl rfl rfl ?_
      refine y_callV (I := .invokevirtual 413) (idx := 413) (KD := 1) (J := 213) (mj := mj203) (as := [.ref 0]) (r := []) (q := 33) rfl (fun _ _ _ _ _ _ => rfl) rfl (by decide) rfl rfl rfl rfl rfl (Nat.le_of_ble_eq_true rfl) (d_recv atM0 (by decide) (by decide)) rfl (m_X7_laysAside (Nat.le_trans (by decide) hd)  g8) (fun g9 => ?_)
      refine y_aload_n (q := 34) rfl rfl rfl ?_
      refine y_callV (I := .invokevirtual 376) (idx := 376) (KD := 1) (J := 198) (mj := mj188) (as := [.ref 0]) (r := []) (q := 37) rfl (fun _ _ _ _ _ _ => rfl) rfl (by decide) rfl rfl rfl rfl rfl (Nat.le_of_ble_eq_true rfl) (d_recv atM0 (by decide) (by decide)) rfl (m_X7_feasts (Nat.le_trans (by decide) hd)  g9) (fun g10 => ?_)
      refine y_iconst (x := 0) (q := 38) rfl (by decide) rfl ?_
      refine y_istore_n (lo' := [some (.ref 0), some (.int v1), some (.int v2), some (.int 0)]) (q := 39) rfl (Nat.le_of_ble_eq_true rfl) rfl rfl ?_
      refine lz_X7_film_39 hd v1 v2  _ (fun z16 g17 => ?_) fuel0 0 g10 
      refine y_aload_n (q := 71) rfl rfl rfl ?_
      refine y_callV (I := .invokevirtual 420) (idx := 420) (KD := 1) (J := 214) (mj := mj204) (as := [.ref 0]) (r := []) (q := 74) rfl (fun _ _ _ _ _ _ => rfl) rfl (by decide) rfl rfl rfl rfl rfl (Nat.le_of_ble_eq_true rfl) (d_recv atM0 (by decide) (by decide)) rfl (m_X7_laysBack (Nat.le_trans (by decide) hd)  g17) (fun g18 => ?_)
      refine y_aload_n (q := 75) rfl rfl rfl ?_
      refine y_getI (q := 78) rfl rfl (by decide) atM0 rfl rfl ?_
      exact y_retI rfl (by decide) rfl rfl
def l_X7_friendsBy_9  (k : dH → Option (Int32 × dH)) : Nat → Int32 → Int32 → dH → Option (Int32 × dH)
  | 0, _, _, _ => none
  | n + 1, v3, v4, h => if v4.toInt < (h 0 13).toInt then (if 0 ≤ v4.toInt ∧ v4.toInt < 8 then (oH (dU h 6 (v4.toInt.toNat) (drem (dushr ((v3 * 1103515245) + 12345) 9) 4)) (fun g4 => l_X7_friendsBy_9  k n ((v3 * 1103515245) + 12345) (v4 + 1) g4)) else none) else (k  h)
theorem lz_X7_friendsBy_9 {d : Nat} (hd : 47 ≤ d) (v1 : Int32) (v2 : Int32) (k : dH → Option (Int32 × dH)) (hk : ∀ (w3 : Int32) (w4 : Int32) (h : dH), dY shM d mj220 dI (k h) 47 [some (.ref 0), some (.int v1), some (.int v2), some (.int w3), some (.int w4)] [] h) : ∀ (n : Nat) (v3 : Int32) (v4 : Int32) (h : dH), dY shM d mj220 dI (l_X7_friendsBy_9  k n v3 v4 h) 9 [some (.ref 0), some (.int v1), some (.int v2), some (.int v3), some (.int v4)] [] h
  | 0, _, _, _ => dY_none
  | n + 1, v3, v4, h => by
    rw [l_X7_friendsBy_9]
    refine y_iload (q := 11) rfl rfl rfl ?_
    refine y_aload_n (q := 12) rfl rfl rfl ?_
    refine y_getI (q := 15) rfl rfl (by decide) atM0 rfl rfl ?_
    refine y_ge (q := 47) (q' := 18) rfl rfl rfl rfl rfl (fun c2 => ?_) (fun c3 => ?_)
    · skip
      refine y_iload_n (q := 19) rfl rfl rfl ?_
      refine y_ldc_w (x := 1103515245) (q := 22) rfl rfl rfl ?_
      refine y_imul (q := 23) rfl rfl ?_
      refine y_sipush (x := 12345) (q := 26) rfl (by decide) rfl ?_
      refine y_iadd (q := 27) rfl rfl ?_
      refine y_istore_n (lo' := [some (.ref 0), some (.int v1), some (.int v2), some (.int ((v3 * 1103515245) + 12345)), some (.int v4)]) (q := 28) rfl (Nat.le_of_ble_eq_true rfl) rfl rfl ?_
      refine y_aload_n (q := 29) rfl rfl rfl ?_
      refine y_getR (b := 6) (q := 32) rfl rfl (by decide) atM0 rfl rfl ?_
      refine y_iload (q := 34) rfl rfl rfl ?_
      refine y_iload_n (q := 35) rfl rfl rfl ?_
      refine y_bipush (x := 9) (q := 37) rfl (by decide) rfl ?_
      refine y_iushr (q := 38) rfl rfl ?_
      refine y_iconst (x := 4) (q := 39) rfl (by decide) rfl ?_
      refine y_irem (q := 40) rfl (by decide) rfl ?_
      refine y_guard (fun c5 => ?_)
      refine y_iast (n := 8) (N := 8) (X := v4.toInt) (K := v4.toInt.toNat) (q := 41) rfl atM6 rfl rfl c5 rfl rfl (fun g4 => ?_)
      refine y_iinc (z := (v4 + 1)) (lo' := [some (.ref 0), some (.int v1), some (.int v2), some (.int ((v3 * 1103515245) + 12345)), some (.int (v4 + 1))]) (q := 44) rfl rfl (Nat.le_of_ble_eq_true rfl) (by rw [oi_1]) rfl rfl ?_
      refine y_goto (q := 9) rfl rfl ?_
      exact lz_X7_friendsBy_9 hd v1 v2 k hk n ((v3 * 1103515245) + 12345) (v4 + 1) g4 
    · skip
      exact hk  v3 v4 h
def f_X7_friendsBy (v1 : Int32) (v2 : Int32) (h : dH) : Option (Int32 × dH) := oV (f_X7_clears  h) (fun g1 => l_X7_friendsBy_9   (fun g8 => oI (f_X7_friendsBehind v2 g8) (fun r9 g10 => oV (f_X7_sitsAgain  g10) (fun g11 => some (r9, g11)))) fuel0 v1 0 g1)
theorem m_X7_friendsBy {d : Nat} (hd : 48 ≤ d) (v1 : Int32) (v2 : Int32) (h : dH) : dX shM d 220 [.ref 0, .int v1, .int v2] dI (f_X7_friendsBy v1 v2 h) h := by
  obtain ⟨e, rfl⟩ : ∃ e, d = e + 1 := ⟨d - 1, by omega⟩
  have hd : 47 ≤ e := by omega
  refine dX_of (mj := mj220) (lo := [some (.ref 0), some (.int v1), some (.int v2), none, none]) rfl (Nat.le_of_ble_eq_true rfl) rfl ?_
  unfold f_X7_friendsBy
  refine y_aload_n (q := 1) rfl rfl rfl ?_
  refine y_callV (I := .invokevirtual 430) (idx := 430) (KD := 1) (J := 221) (mj := mj211) (as := [.ref 0]) (r := []) (q := 4) rfl (fun _ _ _ _ _ _ => rfl) rfl (by decide) rfl rfl rfl rfl rfl (Nat.le_of_ble_eq_true rfl) (d_recv atM0 (by decide) (by decide)) rfl (m_X7_clears (Nat.le_trans (by decide) hd)  h) (fun g1 => ?_)
  refine y_iload_n (q := 5) rfl rfl rfl ?_
  refine y_istore_n (lo' := [some (.ref 0), some (.int v1), some (.int v2), some (.int v1), none]) (q := 6) rfl (Nat.le_of_ble_eq_true rfl) rfl rfl ?_
  refine y_iconst (x := 0) (q := 7) rfl (by decide) rfl ?_
  refine y_istore (lo' := [some (.ref 0), some (.int v1), some (.int v2), some (.int v1), some (.int 0)]) (q := 9) rfl (Nat.le_of_ble_eq_true rfl) rfl rfl ?_
  refine lz_X7_friendsBy_9 hd v1 v2  _ (fun z6 z7 g8 => ?_) fuel0 v1 0 g1 
  refine y_aload_n (q := 48) rfl rfl rfl ?_
  refine y_iload_n (q := 49) rfl rfl rfl ?_
  refine y_callI (I := .invokevirtual 425) (idx := 425) (KD := 1) (J := 217) (mj := mj207) (as := [.ref 0, .int v2]) (r := []) (q := 52) rfl (fun _ _ _ _ _ _ => rfl) rfl (by decide) rfl rfl rfl rfl rfl (Nat.le_of_ble_eq_true rfl) (d_recv atM0 (by decide) (by decide)) rfl (m_X7_friendsBehind (Nat.le_trans (by decide) hd) v2 g8) (fun r9 g10 => ?_)
  refine y_istore (lo' := [some (.ref 0), some (.int v1), some (.int v2), some (.int z6), some (.int r9)]) (q := 54) rfl (Nat.le_of_ble_eq_true rfl) rfl rfl ?_
  refine y_aload_n (q := 55) rfl rfl rfl ?_
  refine y_callV (I := .invokevirtual 433) (idx := 433) (KD := 1) (J := 222) (mj := mj212) (as := [.ref 0]) (r := []) (q := 58) rfl (fun _ _ _ _ _ _ => rfl) rfl (by decide) rfl rfl rfl rfl rfl (Nat.le_of_ble_eq_true rfl) (d_recv atM0 (by decide) (by decide)) rfl (m_X7_sitsAgain (Nat.le_trans (by decide) hd)  g10) (fun g11 => ?_)
  refine y_iload (q := 60) rfl rfl rfl ?_
  exact y_retI rfl (by decide) rfl rfl
def f_X7_drawn (v1 : Int32) (v2 : Int32) (h : dH) : Option (Int32 × dH) := oP (f_X7_in (v2.toInt64) 0 20) (fun r1 => if r1.toInt = 0 then (some ((-2), h)) else (oI (f_X7_friendsBy v1 v2 h) (fun r4 g5 => some (r4, g5))))
theorem m_X7_drawn {d : Nat} (hd : 49 ≤ d) (v1 : Int32) (v2 : Int32) (h : dH) : dX shM d 221 [.ref 0, .int v1, .int v2] dI (f_X7_drawn v1 v2 h) h := by
  obtain ⟨e, rfl⟩ : ∃ e, d = e + 1 := ⟨d - 1, by omega⟩
  have hd : 48 ≤ e := by omega
  refine dX_of (mj := mj221) (lo := [some (.ref 0), some (.int v1), some (.int v2)]) rfl (Nat.le_of_ble_eq_true rfl) rfl ?_
  unfold f_X7_drawn
  refine y_iload_n (q := 1) rfl rfl rfl ?_
  refine y_i2l (q := 2) rfl rfl ?_
  refine y_lconst (u := 0) (q := 3) rfl (by decide) rfl ?_
  refine y_ldc2_w (u := 20) (q := 6) rfl rfl rfl ?_
  refine y_callP (I := .invokestatic 91) (idx := 91) (KD := 0) (J := 128) (mj := mj118) (as := [.long v2.toInt64, .long 0, .long 20]) (r := []) (q := 9) rfl (fun _ _ _ _ _ _ => rfl) rfl (by decide) rfl rfl rfl rfl rfl (Nat.le_of_ble_eq_true rfl) rfl rfl (m_X7_in (Nat.le_trans (by decide) hd) (v2.toInt64) 0 20 h) (fun r1 => ?_)
  refine y_eq0 (q := 21) (q' := 12) rfl rfl rfl rfl (fun c2 => ?_) (fun c3 => ?_)
  · skip
    refine y_bipush (x := (-2)) (q := 23) rfl (by decide) rfl ?_
    exact y_retI rfl (by decide) rfl rfl
  · skip
    refine y_aload_n (q := 13) rfl rfl rfl ?_
    refine y_iload_n (q := 14) rfl rfl rfl ?_
    refine y_iload_n (q := 15) rfl rfl rfl ?_
    refine y_callI (I := .invokevirtual 452) (idx := 452) (KD := 1) (J := 230) (mj := mj220) (as := [.ref 0, .int v1, .int v2]) (r := []) (q := 18) rfl (fun _ _ _ _ _ _ => rfl) rfl (by decide) rfl rfl rfl rfl rfl (Nat.le_of_ble_eq_true rfl) (d_recv atM0 (by decide) (by decide)) rfl (m_X7_friendsBy (Nat.le_trans (by decide) hd) v1 v2 h) (fun r4 g5 => ?_)
    refine y_goto (q := 23) rfl rfl ?_
    exact y_retI rfl (by decide) rfl rfl
def l_X7_chance_45 (v1 : Int32) (v2 : Int32) (v3 : Int32) (k : Int64 → dH → Option (Int64 × dH)) : Nat → Int64 → Int32 → dH → Option (Int64 × dH)
  | 0, _, _, _ => none
  | n + 1, v5, v7, h => if v7.toInt < v2.toInt then (oI (f_X7_friendsBy (v1 + v7) 3 h) (fun r12 g13 => if r12.toInt < v3.toInt then (l_X7_chance_45 v1 v2 v3 k n (v5 + 0) (v7 + 1) g13) else (l_X7_chance_45 v1 v2 v3 k n (v5 + 1) (v7 + 1) g13))) else (k v5 h)
theorem lz_X7_chance_45 {d : Nat} (hd : 48 ≤ d) (v1 : Int32) (v2 : Int32) (v3 : Int32) (v4 : Int32) (z8 : Option Value) (z9 : Option Value) (z10 : Option Value) (z11 : Option Value) (z12 : Option Value) (k : Int64 → dH → Option (Int64 × dH)) (hk : ∀ (v5 : Int64) (w7 : Int32) (h : dH), dY shM d mj222 dL (k v5 h) 80 [some (.ref 0), some (.int v1), some (.int v2), some (.int v3), some (.int v4), some (.long v5), none, some (.int w7), z8, z9, z10, z11, z12] [] h) : ∀ (n : Nat) (v5 : Int64) (v7 : Int32) (h : dH), dY shM d mj222 dL (l_X7_chance_45 v1 v2 v3 k n v5 v7 h) 45 [some (.ref 0), some (.int v1), some (.int v2), some (.int v3), some (.int v4), some (.long v5), none, some (.int v7), z8, z9, z10, z11, z12] [] h
  | 0, _, _, _ => dY_none
  | n + 1, v5, v7, h => by
    rw [l_X7_chance_45]
    refine y_iload (q := 47) rfl rfl rfl ?_
    refine y_iload_n (q := 48) rfl rfl rfl ?_
    refine y_ge (q := 80) (q' := 51) rfl rfl rfl rfl rfl (fun c10 => ?_) (fun c11 => ?_)
    · skip
      refine y_lload (q := 53) rfl rfl rfl ?_
      refine y_aload_n (q := 54) rfl rfl rfl ?_
      refine y_iload_n (q := 55) rfl rfl rfl ?_
      refine y_iload (q := 57) rfl rfl rfl ?_
      refine y_iadd (q := 58) rfl rfl ?_
      refine y_iconst (x := 3) (q := 59) rfl (by decide) rfl ?_
      refine y_callI (I := .invokevirtual 452) (idx := 452) (KD := 1) (J := 230) (mj := mj220) (as := [.ref 0, .int (v1 + v7), .int 3]) (r := [.long v5]) (q := 62) rfl (fun _ _ _ _ _ _ => rfl) rfl (by decide) rfl rfl rfl rfl rfl (Nat.le_of_ble_eq_true rfl) (d_recv atM0 (by decide) (by decide)) rfl (m_X7_friendsBy (Nat.le_trans (by decide) hd) (v1 + v7) 3 h) (fun r12 g13 => ?_)
      refine y_iload_n (q := 63) rfl rfl rfl ?_
      refine y_lt (q := 70) (q' := 66) rfl rfl rfl rfl rfl (fun c14 => ?_) (fun c15 => ?_)
      · skip
        refine y_lconst (u := 0) (q := 71) rfl (by decide) rfl ?_
        refine y_ladd (q := 72) rfl rfl ?_
        refine y_lstore (lo' := [some (.ref 0), some (.int v1), some (.int v2), some (.int v3), some (.int v4), some (.long (v5 + 0)), none, some (.int v7), z8, z9, z10, z11, z12]) (q := 74) rfl (Nat.le_of_ble_eq_true rfl) rfl rfl ?_
        refine y_iinc (z := (v7 + 1)) (lo' := [some (.ref 0), some (.int v1), some (.int v2), some (.int v3), some (.int v4), some (.long (v5 + 0)), none, some (.int (v7 + 1)), z8, z9, z10, z11, z12]) (q := 77) rfl rfl (Nat.le_of_ble_eq_true rfl) (by rw [oi_1]) rfl rfl ?_
        refine y_goto (q := 45) rfl rfl ?_
        exact lz_X7_chance_45 hd v1 v2 v3 v4 z8 z9 z10 z11 z12 k hk n (v5 + 0) (v7 + 1) g13 
      · skip
        refine y_lconst (u := 1) (q := 67) rfl (by decide) rfl ?_
        refine y_goto (q := 71) rfl rfl ?_
        refine y_ladd (q := 72) rfl rfl ?_
        refine y_lstore (lo' := [some (.ref 0), some (.int v1), some (.int v2), some (.int v3), some (.int v4), some (.long (v5 + 1)), none, some (.int v7), z8, z9, z10, z11, z12]) (q := 74) rfl (Nat.le_of_ble_eq_true rfl) rfl rfl ?_
        refine y_iinc (z := (v7 + 1)) (lo' := [some (.ref 0), some (.int v1), some (.int v2), some (.int v3), some (.int v4), some (.long (v5 + 1)), none, some (.int (v7 + 1)), z8, z9, z10, z11, z12]) (q := 77) rfl rfl (Nat.le_of_ble_eq_true rfl) (by rw [oi_1]) rfl rfl ?_
        refine y_goto (q := 45) rfl rfl ?_
        exact lz_X7_chance_45 hd v1 v2 v3 v4 z8 z9 z10 z11 z12 k hk n (v5 + 1) (v7 + 1) g13 
    · skip
      exact hk v5 v7 h
def l_X7_chance_88  (k : Int64 → Option (Int64 × dH)) : Nat → Int64 → Int64 → Option (Int64 × dH)
  | 0, _, _ => none
  | n + 1, v7, v9 => if (dlcmp v9 0).toInt = 0 then (k v7 ) else (if ¬ v9 = 0 then l_X7_chance_88  k n v9 (v7 - v7 / v9 * v9)  else none)
theorem lz_X7_chance_88 {d : Nat} (hd : 48 ≤ d) (v1 : Int32) (v2 : Int32) (v3 : Int32) (v4 : Int32) (v5 : Int64) (h : dH) (k : Int64 → Option (Int64 × dH)) (hk : ∀ (v7 : Int64) (w9 : Int64) (z11 : Option Value) (z12 : Option Value), dY shM d mj222 dL (k v7) 113 [some (.ref 0), some (.int v1), some (.int v2), some (.int v3), some (.int v4), some (.long v5), none, some (.long v7), none, some (.long w9), none, z11, z12] [] h) : ∀ (n : Nat) (v7 : Int64) (v9 : Int64) (z11 : Option Value) (z12 : Option Value), dY shM d mj222 dL (l_X7_chance_88  k n v7 v9) 88 [some (.ref 0), some (.int v1), some (.int v2), some (.int v3), some (.int v4), some (.long v5), none, some (.long v7), none, some (.long v9), none, z11, z12] [] h
  | 0, _, _, _, _ => dY_none
  | n + 1, v7, v9, z11, z12 => by
    rw [l_X7_chance_88]
    refine y_lload (q := 90) rfl rfl rfl ?_
    refine y_lconst (u := 0) (q := 91) rfl (by decide) rfl ?_
    refine y_lcmp (q := 92) rfl rfl ?_
    refine y_eq0 (q := 113) (q' := 95) rfl rfl rfl rfl (fun c19 => ?_) (fun c20 => ?_)
    · skip
      exact hk v7 v9 (z11) (z12) 
    · skip
      refine y_lload (q := 97) rfl rfl rfl ?_
      refine y_lload (q := 99) rfl rfl rfl ?_
      refine y_guard (fun c21 => ?_)
      refine y_lrem (q := 100) rfl c21 rfl ?_
      refine y_lstore (lo' := [some (.ref 0), some (.int v1), some (.int v2), some (.int v3), some (.int v4), some (.long v5), none, some (.long v7), none, some (.long v9), none, some (.long (v7 - v7 / v9 * v9)), none]) (q := 102) rfl (Nat.le_of_ble_eq_true rfl) rfl rfl ?_
      refine y_lload (q := 104) rfl rfl rfl ?_
      refine y_lstore (lo' := [some (.ref 0), some (.int v1), some (.int v2), some (.int v3), some (.int v4), some (.long v5), none, some (.long v9), none, some (.long v9), none, some (.long (v7 - v7 / v9 * v9)), none]) (q := 106) rfl (Nat.le_of_ble_eq_true rfl) rfl rfl ?_
      refine y_lload (q := 108) rfl rfl rfl ?_
      refine y_lstore (lo' := [some (.ref 0), some (.int v1), some (.int v2), some (.int v3), some (.int v4), some (.long v5), none, some (.long v9), none, some (.long (v7 - v7 / v9 * v9)), none, some (.long (v7 - v7 / v9 * v9)), none]) (q := 110) rfl (Nat.le_of_ble_eq_true rfl) rfl rfl ?_
      refine y_goto (q := 88) rfl rfl ?_
      exact lz_X7_chance_88 hd v1 v2 v3 v4 v5 h k hk n v9 (v7 - v7 / v9 * v9)  (some (.long (v7 - v7 / v9 * v9))) (none)
def f_X7_chance (v1 : Int32) (v2 : Int32) (v3 : Int32) (v4 : Int32) (h : dH) : Option (Int64 × dH) := oP (f_X7_in (v2.toInt64) 1 20) (fun r1 => if r1.toInt = 0 then (some ((-4611686018427387904), h)) else (oP (f_X7_in (v3.toInt64) 0 28) (fun r4 => if r4.toInt = 0 then (some ((-4611686018427387904), h)) else (oP (f_X7_in (v4.toInt64) 0 1) (fun r7 => if r7.toInt = 0 then (some ((-4611686018427387904), h)) else (l_X7_chance_45 v1 v2 v3  (fun v5_16 g18 => l_X7_chance_88   (fun v7_22 => if v4.toInt = 0 then (if ¬ v7_22 = 0 then some ((v5_16 / v7_22), g18) else none) else (if ¬ v7_22 = 0 then some ((v2.toInt64 / v7_22), g18) else none)) fuel0 v5_16 (v2.toInt64) ) fuel0 0 0 h))))))
theorem m_X7_chance {d : Nat} (hd : 49 ≤ d) (v1 : Int32) (v2 : Int32) (v3 : Int32) (v4 : Int32) (h : dH) : dX shM d 222 [.ref 0, .int v1, .int v2, .int v3, .int v4] dL (f_X7_chance v1 v2 v3 v4 h) h := by
  obtain ⟨e, rfl⟩ : ∃ e, d = e + 1 := ⟨d - 1, by omega⟩
  have hd : 48 ≤ e := by omega
  refine dX_of (mj := mj222) (lo := [some (.ref 0), some (.int v1), some (.int v2), some (.int v3), some (.int v4), none, none, none, none, none, none, none, none]) rfl (Nat.le_of_ble_eq_true rfl) rfl ?_
  unfold f_X7_chance
  refine y_iload_n (q := 1) rfl rfl rfl ?_
  refine y_i2l (q := 2) rfl rfl ?_
  refine y_lconst (u := 1) (q := 3) rfl (by decide) rfl ?_
  refine y_ldc2_w (u := 20) (q := 6) rfl rfl rfl ?_
  refine y_callP (I := .invokestatic 91) (idx := 91) (KD := 0) (J := 128) (mj := mj118) (as := [.long v2.toInt64, .long 1, .long 20]) (r := []) (q := 9) rfl (fun _ _ _ _ _ _ => rfl) rfl (by decide) rfl rfl rfl rfl rfl (Nat.le_of_ble_eq_true rfl) rfl rfl (m_X7_in (Nat.le_trans (by decide) hd) (v2.toInt64) 1 20 h) (fun r1 => ?_)
  refine y_eq0 (q := 35) (q' := 12) rfl rfl rfl rfl (fun c2 => ?_) (fun c3 => ?_)
  · skip
    refine y_ldc2_w (u := (-4611686018427387904)) (q := 38) rfl rfl rfl ?_
    exact y_retL rfl rfl rfl
  · skip
    refine y_iload_n (q := 13) rfl rfl rfl ?_
    refine y_i2l (q := 14) rfl rfl ?_
    refine y_lconst (u := 0) (q := 15) rfl (by decide) rfl ?_
    refine y_ldc2_w (u := 28) (q := 18) rfl rfl rfl ?_
    refine y_callP (I := .invokestatic 91) (idx := 91) (KD := 0) (J := 128) (mj := mj118) (as := [.long v3.toInt64, .long 0, .long 28]) (r := []) (q := 21) rfl (fun _ _ _ _ _ _ => rfl) rfl (by decide) rfl rfl rfl rfl rfl (Nat.le_of_ble_eq_true rfl) rfl rfl (m_X7_in (Nat.le_trans (by decide) hd) (v3.toInt64) 0 28 h) (fun r4 => ?_)
    refine y_eq0 (q := 35) (q' := 24) rfl rfl rfl rfl (fun c5 => ?_) (fun c6 => ?_)
    · skip
      refine y_ldc2_w (u := (-4611686018427387904)) (q := 38) rfl rfl rfl ?_
      exact y_retL rfl rfl rfl
    · skip
      refine y_iload (q := 26) rfl rfl rfl ?_
      refine y_i2l (q := 27) rfl rfl ?_
      refine y_lconst (u := 0) (q := 28) rfl (by decide) rfl ?_
      refine y_lconst (u := 1) (q := 29) rfl (by decide) rfl ?_
      refine y_callP (I := .invokestatic 91) (idx := 91) (KD := 0) (J := 128) (mj := mj118) (as := [.long v4.toInt64, .long 0, .long 1]) (r := []) (q := 32) rfl (fun _ _ _ _ _ _ => rfl) rfl (by decide) rfl rfl rfl rfl rfl (Nat.le_of_ble_eq_true rfl) rfl rfl (m_X7_in (Nat.le_trans (by decide) hd) (v4.toInt64) 0 1 h) (fun r7 => ?_)
      refine y_ne0 (q := 39) (q' := 35) rfl rfl rfl rfl (fun c8 => ?_) (fun c9 => ?_)
      · skip
        refine y_ldc2_w (u := (-4611686018427387904)) (q := 38) rfl rfl rfl ?_
        exact y_retL rfl rfl rfl
      · skip
        refine y_lconst (u := 0) (q := 40) rfl (by decide) rfl ?_
        refine y_lstore (lo' := [some (.ref 0), some (.int v1), some (.int v2), some (.int v3), some (.int v4), some (.long 0), none, none, none, none, none, none, none]) (q := 42) rfl (Nat.le_of_ble_eq_true rfl) rfl rfl ?_
        refine y_iconst (x := 0) (q := 43) rfl (by decide) rfl ?_
        refine y_istore (lo' := [some (.ref 0), some (.int v1), some (.int v2), some (.int v3), some (.int v4), some (.long 0), none, some (.int 0), none, none, none, none, none]) (q := 45) rfl (Nat.le_of_ble_eq_true rfl) rfl rfl ?_
        refine lz_X7_chance_45 hd v1 v2 v3 v4 (none) (none) (none) (none) (none)  _ (fun v5_16 z17 g18 => ?_) fuel0 0 0 h 
        refine y_lload (q := 82) rfl rfl rfl ?_
        refine y_lstore (lo' := [some (.ref 0), some (.int v1), some (.int v2), some (.int v3), some (.int v4), some (.long v5_16), none, some (.long v5_16), none, none, none, none, none]) (q := 84) rfl (Nat.le_of_ble_eq_true rfl) rfl rfl ?_
        refine y_iload_n (q := 85) rfl rfl rfl ?_
        refine y_i2l (q := 86) rfl rfl ?_
        refine y_lstore (lo' := [some (.ref 0), some (.int v1), some (.int v2), some (.int v3), some (.int v4), some (.long v5_16), none, some (.long v5_16), none, some (.long v2.toInt64), none, none, none]) (q := 88) rfl (Nat.le_of_ble_eq_true rfl) rfl rfl ?_
        refine lz_X7_chance_88 hd v1 v2 v3 v4 v5_16 g18 _ (fun v7_22 z23 z24 z25 => ?_) fuel0 v5_16 (v2.toInt64)  (none) (none)
        refine y_iload (q := 115) rfl rfl rfl ?_
        refine y_ne0 (q := 126) (q' := 118) rfl rfl rfl rfl (fun c26 => ?_) (fun c27 => ?_)
        · skip
          refine y_lload (q := 120) rfl rfl rfl ?_
          refine y_lload (q := 122) rfl rfl rfl ?_
          refine y_guard (fun c28 => ?_)
          refine y_ldiv (q := 123) rfl c28 rfl ?_
          refine y_goto (q := 131) rfl rfl ?_
          exact y_retL rfl rfl rfl
        · skip
          refine y_iload_n (q := 127) rfl rfl rfl ?_
          refine y_i2l (q := 128) rfl rfl ?_
          refine y_lload (q := 130) rfl rfl rfl ?_
          refine y_guard (fun c29 => ?_)
          refine y_ldiv (q := 131) rfl c29 rfl ?_
          exact y_retL rfl rfl rfl
def l_X7_image_2  (k : dH → Option (Int32 × dH)) : Nat → Int32 → dH → Option (Int32 × dH)
  | 0, _, _ => none
  | n + 1, v1, h => if v1.toInt < 8 then (if 0 ≤ v1.toInt ∧ v1.toInt < 8 then (if 0 ≤ v1.toInt ∧ v1.toInt < 8 then (oH (dU h 11 (v1.toInt.toNat) (h 5 (v1.toInt.toNat))) (fun g4 => if 0 ≤ v1.toInt ∧ v1.toInt < 8 then (if 0 ≤ v1.toInt ∧ v1.toInt < 8 then (oH (dU g4 12 (v1.toInt.toNat) (g4 6 (v1.toInt.toNat))) (fun g7 => l_X7_image_2  k n (v1 + 1) g7)) else none) else none)) else none) else none) else (k  h)
theorem lz_X7_image_2 {d : Nat} (hd : 0 ≤ d)  (k : dH → Option (Int32 × dH)) (hk : ∀ (w1 : Int32) (h : dH), dY shM d mj223 dI (k h) 38 [some (.ref 0), some (.int w1)] [] h) : ∀ (n : Nat) (v1 : Int32) (h : dH), dY shM d mj223 dI (l_X7_image_2  k n v1 h) 2 [some (.ref 0), some (.int v1)] [] h
  | 0, _, _ => dY_none
  | n + 1, v1, h => by
    rw [l_X7_image_2]
    refine y_iload_n (q := 3) rfl rfl rfl ?_
    refine y_bipush (x := 8) (q := 5) rfl (by decide) rfl ?_
    refine y_ge (q := 38) (q' := 8) rfl rfl (by decide) rfl rfl (fun c1 => ?_) (fun c2 => ?_)
    · skip
      refine y_aload_n (q := 9) rfl rfl rfl ?_
      refine y_getR (b := 11) (q := 12) rfl rfl (by decide) atM0 rfl rfl ?_
      refine y_iload_n (q := 13) rfl rfl rfl ?_
      refine y_aload_n (q := 14) rfl rfl rfl ?_
      refine y_getR (b := 5) (q := 17) rfl rfl (by decide) atM0 rfl rfl ?_
      refine y_iload_n (q := 18) rfl rfl rfl ?_
      refine y_guard (fun c3 => ?_)
      refine y_iald (n := 8) (N := 8) (X := v1.toInt) (K := v1.toInt.toNat) (q := 19) hbM rfl atM5 rfl rfl c3 rfl rfl ?_
      refine y_guard (fun c5 => ?_)
      refine y_iast (n := 8) (N := 8) (X := v1.toInt) (K := v1.toInt.toNat) (q := 20) rfl atM11 rfl rfl c5 rfl rfl (fun g4 => ?_)
      refine y_aload_n (q := 21) rfl rfl rfl ?_
      refine y_getR (b := 12) (q := 24) rfl rfl (by decide) atM0 rfl rfl ?_
      refine y_iload_n (q := 25) rfl rfl rfl ?_
      refine y_aload_n (q := 26) rfl rfl rfl ?_
      refine y_getR (b := 6) (q := 29) rfl rfl (by decide) atM0 rfl rfl ?_
      refine y_iload_n (q := 30) rfl rfl rfl ?_
      refine y_guard (fun c6 => ?_)
      refine y_iald (n := 8) (N := 8) (X := v1.toInt) (K := v1.toInt.toNat) (q := 31) hbM rfl atM6 rfl rfl c6 rfl rfl ?_
      refine y_guard (fun c8 => ?_)
      refine y_iast (n := 8) (N := 8) (X := v1.toInt) (K := v1.toInt.toNat) (q := 32) rfl atM12 rfl rfl c8 rfl rfl (fun g7 => ?_)
      refine y_iinc (z := (v1 + 1)) (lo' := [some (.ref 0), some (.int (v1 + 1))]) (q := 35) rfl rfl (Nat.le_of_ble_eq_true rfl) (by rw [oi_1]) rfl rfl ?_
      refine y_goto (q := 2) rfl rfl ?_
      exact lz_X7_image_2 hd  k hk n (v1 + 1) g7 
    · skip
      exact hk  v1 h
def l_X7_image_40  (k : dH → Option (Int32 × dH)) : Nat → Int32 → dH → Option (Int32 × dH)
  | 0, _, _ => none
  | n + 1, v1, h => if v1.toInt < 64 then (if 0 ≤ v1.toInt ∧ v1.toInt < 64 then (if 0 ≤ v1.toInt ∧ v1.toInt < 64 then (oH (dU h 13 (v1.toInt.toNat) (h 7 (v1.toInt.toNat))) (fun g14 => l_X7_image_40  k n (v1 + 1) g14)) else none) else none) else (k  h)
theorem lz_X7_image_40 {d : Nat} (hd : 0 ≤ d)  (k : dH → Option (Int32 × dH)) (hk : ∀ (w1 : Int32) (h : dH), dY shM d mj223 dI (k h) 64 [some (.ref 0), some (.int w1)] [] h) : ∀ (n : Nat) (v1 : Int32) (h : dH), dY shM d mj223 dI (l_X7_image_40  k n v1 h) 40 [some (.ref 0), some (.int v1)] [] h
  | 0, _, _ => dY_none
  | n + 1, v1, h => by
    rw [l_X7_image_40]
    refine y_iload_n (q := 41) rfl rfl rfl ?_
    refine y_bipush (x := 64) (q := 43) rfl (by decide) rfl ?_
    refine y_ge (q := 64) (q' := 46) rfl rfl (by decide) rfl rfl (fun c11 => ?_) (fun c12 => ?_)
    · skip
      refine y_aload_n (q := 47) rfl rfl rfl ?_
      refine y_getR (b := 13) (q := 50) rfl rfl (by decide) atM0 rfl rfl ?_
      refine y_iload_n (q := 51) rfl rfl rfl ?_
      refine y_aload_n (q := 52) rfl rfl rfl ?_
      refine y_getR (b := 7) (q := 55) rfl rfl (by decide) atM0 rfl rfl ?_
      refine y_iload_n (q := 56) rfl rfl rfl ?_
      refine y_guard (fun c13 => ?_)
      refine y_iald (n := 64) (N := 64) (X := v1.toInt) (K := v1.toInt.toNat) (q := 57) hbM rfl atM7 rfl rfl c13 rfl rfl ?_
      refine y_guard (fun c15 => ?_)
      refine y_iast (n := 64) (N := 64) (X := v1.toInt) (K := v1.toInt.toNat) (q := 58) rfl atM13 rfl rfl c15 rfl rfl (fun g14 => ?_)
      refine y_iinc (z := (v1 + 1)) (lo' := [some (.ref 0), some (.int (v1 + 1))]) (q := 61) rfl rfl (Nat.le_of_ble_eq_true rfl) (by rw [oi_1]) rfl rfl ?_
      refine y_goto (q := 40) rfl rfl ?_
      exact lz_X7_image_40 hd  k hk n (v1 + 1) g14 
    · skip
      exact hk  v1 h
def f_X7_image  (h : dH) : Option (Int32 × dH) := l_X7_image_2   (fun g10 => l_X7_image_40   (fun g17 => oH (dU g17 0 39 (g17 0 13)) (fun g18 => oH (dU g18 0 40 (g18 0 7)) (fun g19 => oH (dU g19 0 41 (g19 0 8)) (fun g20 => oH (dU g20 0 42 (g20 0 4)) (fun g21 => some ((g21 0 13), g21)))))) fuel0 0 g10) fuel0 0 h
theorem m_X7_image {d : Nat} (hd : 1 ≤ d)  (h : dH) : dX shM d 223 [.ref 0] dI (f_X7_image  h) h := by
  obtain ⟨e, rfl⟩ : ∃ e, d = e + 1 := ⟨d - 1, by omega⟩
  have hd : 0 ≤ e := by omega
  refine dX_of (mj := mj223) (lo := [some (.ref 0), none]) rfl (Nat.le_of_ble_eq_true rfl) rfl ?_
  unfold f_X7_image
  refine y_iconst (x := 0) (q := 1) rfl (by decide) rfl ?_
  refine y_istore_n (lo' := [some (.ref 0), some (.int 0)]) (q := 2) rfl (Nat.le_of_ble_eq_true rfl) rfl rfl ?_
  refine lz_X7_image_2 hd   _ (fun z9 g10 => ?_) fuel0 0 h 
  refine y_iconst (x := 0) (q := 39) rfl (by decide) rfl ?_
  refine y_istore_n (lo' := [some (.ref 0), some (.int 0)]) (q := 40) rfl (Nat.le_of_ble_eq_true rfl) rfl rfl ?_
  refine lz_X7_image_40 hd   _ (fun z16 g17 => ?_) fuel0 0 g10 
  refine y_aload_n (q := 65) rfl rfl rfl ?_
  refine y_aload_n (q := 66) rfl rfl rfl ?_
  refine y_getI (q := 69) rfl rfl (by decide) atM0 rfl rfl ?_
  refine y_putI (q := 72) rfl rfl (by decide) atM0 rfl rfl rfl rfl (fun g18 => ?_)
  refine y_aload_n (q := 73) rfl rfl rfl ?_
  refine y_aload_n (q := 74) rfl rfl rfl ?_
  refine y_getI (q := 77) rfl rfl (by decide) atM0 rfl rfl ?_
  refine y_putI (q := 80) rfl rfl (by decide) atM0 rfl rfl rfl rfl (fun g19 => ?_)
  refine y_aload_n (q := 81) rfl rfl rfl ?_
  refine y_aload_n (q := 82) rfl rfl rfl ?_
  refine y_getI (q := 85) rfl rfl (by decide) atM0 rfl rfl ?_
  refine y_putI (q := 88) rfl rfl (by decide) atM0 rfl rfl rfl rfl (fun g20 => ?_)
  refine y_aload_n (q := 89) rfl rfl rfl ?_
  refine y_aload_n (q := 90) rfl rfl rfl ?_
  refine y_getI (q := 93) rfl rfl (by decide) atM0 rfl rfl ?_
  refine y_putI (q := 96) rfl rfl (by decide) atM0 rfl rfl rfl rfl (fun g21 => ?_)
  refine y_aload_n (q := 97) rfl rfl rfl ?_
  refine y_getI (q := 100) rfl rfl (by decide) atM0 rfl rfl ?_
  exact y_retI rfl (by decide) rfl rfl
def l_X7_back_13  (k : dH → Option (Int32 × dH)) : Nat → Int32 → dH → Option (Int32 × dH)
  | 0, _, _ => none
  | n + 1, v1, h => if v1.toInt < 8 then (if 0 ≤ v1.toInt ∧ v1.toInt < 8 then (if 0 ≤ v1.toInt ∧ v1.toInt < 8 then (oH (dU h 5 (v1.toInt.toNat) (h 11 (v1.toInt.toNat))) (fun g6 => if 0 ≤ v1.toInt ∧ v1.toInt < 8 then (if 0 ≤ v1.toInt ∧ v1.toInt < 8 then (oH (dU g6 6 (v1.toInt.toNat) (g6 12 (v1.toInt.toNat))) (fun g9 => l_X7_back_13  k n (v1 + 1) g9)) else none) else none)) else none) else none) else (k  h)
theorem lz_X7_back_13 {d : Nat} (hd : 0 ≤ d)  (k : dH → Option (Int32 × dH)) (hk : ∀ (w1 : Int32) (h : dH), dY shM d mj224 dI (k h) 49 [some (.ref 0), some (.int w1)] [] h) : ∀ (n : Nat) (v1 : Int32) (h : dH), dY shM d mj224 dI (l_X7_back_13  k n v1 h) 13 [some (.ref 0), some (.int v1)] [] h
  | 0, _, _ => dY_none
  | n + 1, v1, h => by
    rw [l_X7_back_13]
    refine y_iload_n (q := 14) rfl rfl rfl ?_
    refine y_bipush (x := 8) (q := 16) rfl (by decide) rfl ?_
    refine y_ge (q := 49) (q' := 19) rfl rfl (by decide) rfl rfl (fun c3 => ?_) (fun c4 => ?_)
    · skip
      refine y_aload_n (q := 20) rfl rfl rfl ?_
      refine y_getR (b := 5) (q := 23) rfl rfl (by decide) atM0 rfl rfl ?_
      refine y_iload_n (q := 24) rfl rfl rfl ?_
      refine y_aload_n (q := 25) rfl rfl rfl ?_
      refine y_getR (b := 11) (q := 28) rfl rfl (by decide) atM0 rfl rfl ?_
      refine y_iload_n (q := 29) rfl rfl rfl ?_
      refine y_guard (fun c5 => ?_)
      refine y_iald (n := 8) (N := 8) (X := v1.toInt) (K := v1.toInt.toNat) (q := 30) hbM rfl atM11 rfl rfl c5 rfl rfl ?_
      refine y_guard (fun c7 => ?_)
      refine y_iast (n := 8) (N := 8) (X := v1.toInt) (K := v1.toInt.toNat) (q := 31) rfl atM5 rfl rfl c7 rfl rfl (fun g6 => ?_)
      refine y_aload_n (q := 32) rfl rfl rfl ?_
      refine y_getR (b := 6) (q := 35) rfl rfl (by decide) atM0 rfl rfl ?_
      refine y_iload_n (q := 36) rfl rfl rfl ?_
      refine y_aload_n (q := 37) rfl rfl rfl ?_
      refine y_getR (b := 12) (q := 40) rfl rfl (by decide) atM0 rfl rfl ?_
      refine y_iload_n (q := 41) rfl rfl rfl ?_
      refine y_guard (fun c8 => ?_)
      refine y_iald (n := 8) (N := 8) (X := v1.toInt) (K := v1.toInt.toNat) (q := 42) hbM rfl atM12 rfl rfl c8 rfl rfl ?_
      refine y_guard (fun c10 => ?_)
      refine y_iast (n := 8) (N := 8) (X := v1.toInt) (K := v1.toInt.toNat) (q := 43) rfl atM6 rfl rfl c10 rfl rfl (fun g9 => ?_)
      refine y_iinc (z := (v1 + 1)) (lo' := [some (.ref 0), some (.int (v1 + 1))]) (q := 46) rfl rfl (Nat.le_of_ble_eq_true rfl) (by rw [oi_1]) rfl rfl ?_
      refine y_goto (q := 13) rfl rfl ?_
      exact lz_X7_back_13 hd  k hk n (v1 + 1) g9 
    · skip
      exact hk  v1 h
def l_X7_back_51  (k : dH → Option (Int32 × dH)) : Nat → Int32 → dH → Option (Int32 × dH)
  | 0, _, _ => none
  | n + 1, v1, h => if v1.toInt < 64 then (if 0 ≤ v1.toInt ∧ v1.toInt < 64 then (if 0 ≤ v1.toInt ∧ v1.toInt < 64 then (oH (dU h 7 (v1.toInt.toNat) (h 13 (v1.toInt.toNat))) (fun g16 => l_X7_back_51  k n (v1 + 1) g16)) else none) else none) else (k  h)
theorem lz_X7_back_51 {d : Nat} (hd : 0 ≤ d)  (k : dH → Option (Int32 × dH)) (hk : ∀ (w1 : Int32) (h : dH), dY shM d mj224 dI (k h) 75 [some (.ref 0), some (.int w1)] [] h) : ∀ (n : Nat) (v1 : Int32) (h : dH), dY shM d mj224 dI (l_X7_back_51  k n v1 h) 51 [some (.ref 0), some (.int v1)] [] h
  | 0, _, _ => dY_none
  | n + 1, v1, h => by
    rw [l_X7_back_51]
    refine y_iload_n (q := 52) rfl rfl rfl ?_
    refine y_bipush (x := 64) (q := 54) rfl (by decide) rfl ?_
    refine y_ge (q := 75) (q' := 57) rfl rfl (by decide) rfl rfl (fun c13 => ?_) (fun c14 => ?_)
    · skip
      refine y_aload_n (q := 58) rfl rfl rfl ?_
      refine y_getR (b := 7) (q := 61) rfl rfl (by decide) atM0 rfl rfl ?_
      refine y_iload_n (q := 62) rfl rfl rfl ?_
      refine y_aload_n (q := 63) rfl rfl rfl ?_
      refine y_getR (b := 13) (q := 66) rfl rfl (by decide) atM0 rfl rfl ?_
      refine y_iload_n (q := 67) rfl rfl rfl ?_
      refine y_guard (fun c15 => ?_)
      refine y_iald (n := 64) (N := 64) (X := v1.toInt) (K := v1.toInt.toNat) (q := 68) hbM rfl atM13 rfl rfl c15 rfl rfl ?_
      refine y_guard (fun c17 => ?_)
      refine y_iast (n := 64) (N := 64) (X := v1.toInt) (K := v1.toInt.toNat) (q := 69) rfl atM7 rfl rfl c17 rfl rfl (fun g16 => ?_)
      refine y_iinc (z := (v1 + 1)) (lo' := [some (.ref 0), some (.int (v1 + 1))]) (q := 72) rfl rfl (Nat.le_of_ble_eq_true rfl) (by rw [oi_1]) rfl rfl ?_
      refine y_goto (q := 51) rfl rfl ?_
      exact lz_X7_back_51 hd  k hk n (v1 + 1) g16 
    · skip
      exact hk  v1 h
def f_X7_back  (h : dH) : Option (Int32 × dH) := if (h 0 39).toInt = (-1) then (some ((-3), h)) else (l_X7_back_13   (fun g12 => l_X7_back_51   (fun g19 => oH (dU g19 0 13 (g19 0 39)) (fun g20 => oH (dU g20 0 7 (g20 0 40)) (fun g21 => oH (dU g21 0 8 (g21 0 41)) (fun g22 => oH (dU g22 0 4 (g22 0 42)) (fun g23 => some ((g23 0 13), g23)))))) fuel0 0 g12) fuel0 0 h)
theorem m_X7_back {d : Nat} (hd : 1 ≤ d)  (h : dH) : dX shM d 224 [.ref 0] dI (f_X7_back  h) h := by
  obtain ⟨e, rfl⟩ : ∃ e, d = e + 1 := ⟨d - 1, by omega⟩
  have hd : 0 ≤ e := by omega
  refine dX_of (mj := mj224) (lo := [some (.ref 0), none]) rfl (Nat.le_of_ble_eq_true rfl) rfl ?_
  unfold f_X7_back
  refine y_aload_n (q := 1) rfl rfl rfl ?_
  refine y_getI (q := 4) rfl rfl (by decide) atM0 rfl rfl ?_
  refine y_iconst (x := (-1)) (q := 5) rfl (by decide) rfl ?_
  refine y_ne (q := 11) (q' := 8) rfl rfl (by decide) rfl rfl (fun c1 => ?_) (fun c2 => ?_)
  · skip
    refine y_bipush (x := (-3)) (q := 10) rfl (by decide) rfl ?_
    exact y_retI rfl (by decide) rfl rfl
  · skip
    refine y_iconst (x := 0) (q := 12) rfl (by decide) rfl ?_
    refine y_istore_n (lo' := [some (.ref 0), some (.int 0)]) (q := 13) rfl (Nat.le_of_ble_eq_true rfl) rfl rfl ?_
    refine lz_X7_back_13 hd   _ (fun z11 g12 => ?_) fuel0 0 h 
    refine y_iconst (x := 0) (q := 50) rfl (by decide) rfl ?_
    refine y_istore_n (lo' := [some (.ref 0), some (.int 0)]) (q := 51) rfl (Nat.le_of_ble_eq_true rfl) rfl rfl ?_
    refine lz_X7_back_51 hd   _ (fun z18 g19 => ?_) fuel0 0 g12 
    refine y_aload_n (q := 76) rfl rfl rfl ?_
    refine y_aload_n (q := 77) rfl rfl rfl ?_
    refine y_getI (q := 80) rfl rfl (by decide) atM0 rfl rfl ?_
    refine y_putI (q := 83) rfl rfl (by decide) atM0 rfl rfl rfl rfl (fun g20 => ?_)
    refine y_aload_n (q := 84) rfl rfl rfl ?_
    refine y_aload_n (q := 85) rfl rfl rfl ?_
    refine y_getI (q := 88) rfl rfl (by decide) atM0 rfl rfl ?_
    refine y_putI (q := 91) rfl rfl (by decide) atM0 rfl rfl rfl rfl (fun g21 => ?_)
    refine y_aload_n (q := 92) rfl rfl rfl ?_
    refine y_aload_n (q := 93) rfl rfl rfl ?_
    refine y_getI (q := 96) rfl rfl (by decide) atM0 rfl rfl ?_
    refine y_putI (q := 99) rfl rfl (by decide) atM0 rfl rfl rfl rfl (fun g22 => ?_)
    refine y_aload_n (q := 100) rfl rfl rfl ?_
    refine y_aload_n (q := 101) rfl rfl rfl ?_
    refine y_getI (q := 104) rfl rfl (by decide) atM0 rfl rfl ?_
    refine y_putI (q := 107) rfl rfl (by decide) atM0 rfl rfl rfl rfl (fun g23 => ?_)
    refine y_aload_n (q := 108) rfl rfl rfl ?_
    refine y_getI (q := 111) rfl rfl (by decide) atM0 rfl rfl ?_
    exact y_retI rfl (by decide) rfl rfl
def l_X7_count_65 (v1 : Int32) (h : dH) (k : Int32 → Option (Int32)) : Nat → Int32 → Int32 → Option (Int32)
  | 0, _, _ => none
  | n + 1, v2, v3 => if v3.toInt < (h 0 13).toInt then (if v1.toInt = 0 then (l_X7_count_65 v1 h k n (v2 + 1) (v3 + 1) ) else (if 0 ≤ v3.toInt ∧ v3.toInt < 8 then (if (h 6 (v3.toInt.toNat)).toInt = (-1) then (l_X7_count_65 v1 h k n (v2 + 0) (v3 + 1) ) else (l_X7_count_65 v1 h k n (v2 + 1) (v3 + 1) )) else none)) else (k v2 )
theorem lz_X7_count_65 {d : Nat} (hd : 1 ≤ d) (v1 : Int32) (h : dH) (k : Int32 → Option (Int32)) (hk : ∀ (v2 : Int32) (w3 : Int32), dY shM d mj225 (dP h) (k v2) 101 [some (.ref 0), some (.int v1), some (.int v2), some (.int w3)] [] h) : ∀ (n : Nat) (v2 : Int32) (v3 : Int32), dY shM d mj225 (dP h) (l_X7_count_65 v1 h k n v2 v3) 65 [some (.ref 0), some (.int v1), some (.int v2), some (.int v3)] [] h
  | 0, _, _ => dY_none
  | n + 1, v2, v3 => by
    rw [l_X7_count_65]
    refine y_iload_n (q := 66) rfl rfl rfl ?_
    refine y_aload_n (q := 67) rfl rfl rfl ?_
    refine y_getI (q := 70) rfl rfl (by decide) atM0 rfl rfl ?_
    refine y_ge (q := 101) (q' := 73) rfl rfl rfl rfl rfl (fun c12 => ?_) (fun c13 => ?_)
    · skip
      refine y_iload_n (q := 74) rfl rfl rfl ?_
      refine y_iload_n (q := 75) rfl rfl rfl ?_
      refine y_eq0 (q := 88) (q' := 78) rfl rfl rfl rfl (fun c14 => ?_) (fun c15 => ?_)
      · skip
        refine y_iconst (x := 1) (q := 89) rfl (by decide) rfl ?_
        refine y_goto (q := 93) rfl rfl ?_
        refine y_iadd (q := 94) rfl rfl ?_
        refine y_istore_n (lo' := [some (.ref 0), some (.int v1), some (.int (v2 + 1)), some (.int v3)]) (q := 95) rfl (Nat.le_of_ble_eq_true rfl) rfl rfl ?_
        refine y_iinc (z := (v3 + 1)) (lo' := [some (.ref 0), some (.int v1), some (.int (v2 + 1)), some (.int (v3 + 1))]) (q := 98) rfl rfl (Nat.le_of_ble_eq_true rfl) (by rw [oi_1]) rfl rfl ?_
        refine y_goto (q := 65) rfl rfl ?_
        exact lz_X7_count_65 hd v1 h k hk n (v2 + 1) (v3 + 1)  
      · skip
        refine y_aload_n (q := 79) rfl rfl rfl ?_
        refine y_getR (b := 6) (q := 82) rfl rfl (by decide) atM0 rfl rfl ?_
        refine y_iload_n (q := 83) rfl rfl rfl ?_
        refine y_guard (fun c16 => ?_)
        refine y_iald (n := 8) (N := 8) (X := v3.toInt) (K := v3.toInt.toNat) (q := 84) hbM rfl atM6 rfl rfl c16 rfl rfl ?_
        refine y_iconst (x := (-1)) (q := 85) rfl (by decide) rfl ?_
        refine y_eq (q := 92) (q' := 88) rfl rfl (by decide) rfl rfl (fun c17 => ?_) (fun c18 => ?_)
        · skip
          refine y_iconst (x := 0) (q := 93) rfl (by decide) rfl ?_
          refine y_iadd (q := 94) rfl rfl ?_
          refine y_istore_n (lo' := [some (.ref 0), some (.int v1), some (.int (v2 + 0)), some (.int v3)]) (q := 95) rfl (Nat.le_of_ble_eq_true rfl) rfl rfl ?_
          refine y_iinc (z := (v3 + 1)) (lo' := [some (.ref 0), some (.int v1), some (.int (v2 + 0)), some (.int (v3 + 1))]) (q := 98) rfl rfl (Nat.le_of_ble_eq_true rfl) (by rw [oi_1]) rfl rfl ?_
          refine y_goto (q := 65) rfl rfl ?_
          exact lz_X7_count_65 hd v1 h k hk n (v2 + 0) (v3 + 1)  
        · skip
          refine y_iconst (x := 1) (q := 89) rfl (by decide) rfl ?_
          refine y_goto (q := 93) rfl rfl ?_
          refine y_iadd (q := 94) rfl rfl ?_
          refine y_istore_n (lo' := [some (.ref 0), some (.int v1), some (.int (v2 + 1)), some (.int v3)]) (q := 95) rfl (Nat.le_of_ble_eq_true rfl) rfl rfl ?_
          refine y_iinc (z := (v3 + 1)) (lo' := [some (.ref 0), some (.int v1), some (.int (v2 + 1)), some (.int (v3 + 1))]) (q := 98) rfl rfl (Nat.le_of_ble_eq_true rfl) (by rw [oi_1]) rfl rfl ?_
          refine y_goto (q := 65) rfl rfl ?_
          exact lz_X7_count_65 hd v1 h k hk n (v2 + 1) (v3 + 1)  
    · skip
      exact hk v2 v3 
def f_X7_count (v1 : Int32) (h : dH) : Option (Int32) := oP (f_X7_in (v1.toInt64) 0 5) (fun r1 => if r1.toInt = 0 then ((some (-2))) else (if 1 < v1.toInt then (if v1.toInt = 2 then ((some (h 0 7))) else (if v1.toInt = 3 then ((some (h 0 3))) else (if v1.toInt = 4 then ((some (h 0 6))) else ((some (h 0 4)))))) else (l_X7_count_65 v1 h (fun v2_19 => (some v2_19)) fuel0 0 0 )))
theorem m_X7_count {d : Nat} (hd : 2 ≤ d) (v1 : Int32) (h : dH) : dX shM d 225 [.ref 0, .int v1] (dP h) (f_X7_count v1 h) h := by
  obtain ⟨e, rfl⟩ : ∃ e, d = e + 1 := ⟨d - 1, by omega⟩
  have hd : 1 ≤ e := by omega
  refine dX_of (mj := mj225) (lo := [some (.ref 0), some (.int v1), none, none]) rfl (Nat.le_of_ble_eq_true rfl) rfl ?_
  unfold f_X7_count
  refine y_iload_n (q := 1) rfl rfl rfl ?_
  refine y_i2l (q := 2) rfl rfl ?_
  refine y_lconst (u := 0) (q := 3) rfl (by decide) rfl ?_
  refine y_ldc2_w (u := 5) (q := 6) rfl rfl rfl ?_
  refine y_callP (I := .invokestatic 91) (idx := 91) (KD := 0) (J := 128) (mj := mj118) (as := [.long v1.toInt64, .long 0, .long 5]) (r := []) (q := 9) rfl (fun _ _ _ _ _ _ => rfl) rfl (by decide) rfl rfl rfl rfl rfl (Nat.le_of_ble_eq_true rfl) rfl rfl (m_X7_in (Nat.le_trans (by decide) hd) (v1.toInt64) 0 5 h) (fun r1 => ?_)
  refine y_ne0 (q := 15) (q' := 12) rfl rfl rfl rfl (fun c2 => ?_) (fun c3 => ?_)
  · skip
    refine y_bipush (x := (-2)) (q := 14) rfl (by decide) rfl ?_
    exact y_retP rfl (by decide) rfl rfl
  · skip
    refine y_iload_n (q := 16) rfl rfl rfl ?_
    refine y_iconst (x := 1) (q := 17) rfl (by decide) rfl ?_
    refine y_le (q := 61) (q' := 20) rfl rfl (by decide) rfl rfl (fun c4 => ?_) (fun c5 => ?_)
    · skip
      refine y_iload_n (q := 21) rfl rfl rfl ?_
      refine y_iconst (x := 2) (q := 22) rfl (by decide) rfl ?_
      refine y_ne (q := 32) (q' := 25) rfl rfl (by decide) rfl rfl (fun c6 => ?_) (fun c7 => ?_)
      · skip
        refine y_aload_n (q := 26) rfl rfl rfl ?_
        refine y_getI (q := 29) rfl rfl (by decide) atM0 rfl rfl ?_
        refine y_goto (q := 60) rfl rfl ?_
        exact y_retP rfl (by decide) rfl rfl
      · skip
        refine y_iload_n (q := 33) rfl rfl rfl ?_
        refine y_iconst (x := 3) (q := 34) rfl (by decide) rfl ?_
        refine y_ne (q := 44) (q' := 37) rfl rfl (by decide) rfl rfl (fun c8 => ?_) (fun c9 => ?_)
        · skip
          refine y_aload_n (q := 38) rfl rfl rfl ?_
          refine y_getI (q := 41) rfl rfl (by decide) atM0 rfl rfl ?_
          refine y_goto (q := 60) rfl rfl ?_
          exact y_retP rfl (by decide) rfl rfl
        · skip
          refine y_iload_n (q := 45) rfl rfl rfl ?_
          refine y_iconst (x := 4) (q := 46) rfl (by decide) rfl ?_
          refine y_ne (q := 56) (q' := 49) rfl rfl (by decide) rfl rfl (fun c10 => ?_) (fun c11 => ?_)
          · skip
            refine y_aload_n (q := 50) rfl rfl rfl ?_
            refine y_getI (q := 53) rfl rfl (by decide) atM0 rfl rfl ?_
            refine y_goto (q := 60) rfl rfl ?_
            exact y_retP rfl (by decide) rfl rfl
          · skip
            refine y_aload_n (q := 57) rfl rfl rfl ?_
            refine y_getI (q := 60) rfl rfl (by decide) atM0 rfl rfl ?_
            exact y_retP rfl (by decide) rfl rfl
    · skip
      refine y_iconst (x := 0) (q := 62) rfl (by decide) rfl ?_
      refine y_istore_n (lo' := [some (.ref 0), some (.int v1), some (.int 0), none]) (q := 63) rfl (Nat.le_of_ble_eq_true rfl) rfl rfl ?_
      refine y_iconst (x := 0) (q := 64) rfl (by decide) rfl ?_
      refine y_istore_n (lo' := [some (.ref 0), some (.int v1), some (.int 0), some (.int 0)]) (q := 65) rfl (Nat.le_of_ble_eq_true rfl) rfl rfl ?_
      refine lz_X7_count_65 hd v1 h _ (fun v2_19 z20 => ?_) fuel0 0 0  
      refine y_iload_n (q := 102) rfl rfl rfl ?_
      exact y_retP rfl (by decide) rfl rfl
def f_X7_cell (v1 : Int32) (v2 : Int32) (v3 : Int32) (h : dH) : Option (Int32 × dH) := oP (f_X7_isSheet v1) (fun r1 => if r1.toInt = 0 then (some ((-2), h)) else (if 0 ≤ v1.toInt ∧ v1.toInt < 4 then (if (h 14 (v1.toInt.toNat)).toInt = 0 then (some ((-11), h)) else (if 0 ≤ v1.toInt ∧ v1.toInt < 4 then (oP (f_X7_in (v2.toInt64) 0 (((h 16 (v1.toInt.toNat)) - 1).toInt64)) (fun r8 => if r8.toInt = 0 then (some ((-12), h)) else (if 0 ≤ v1.toInt ∧ v1.toInt < 4 then (if (h 15 (v1.toInt.toNat)).toInt = 0 then (if 0 ≤ ((40 * v1) + v2).toInt ∧ ((40 * v1) + v2).toInt < 160 then (oH (dU h 17 (((40 * v1) + v2).toInt.toNat) v3.toInt8.toInt32) (fun g14 => some (1, g14))) else none) else (if 0 ≤ v1.toInt ∧ v1.toInt < 4 then (if (h 15 (v1.toInt.toNat)).toInt = 1 then (if 0 ≤ ((40 * v1) + v2).toInt ∧ ((40 * v1) + v2).toInt < 160 then (oH (dU h 17 (((40 * v1) + v2).toInt.toNat) v3.toInt16.toInt32) (fun g19 => some (1, g19))) else none) else (if 0 ≤ ((40 * v1) + v2).toInt ∧ ((40 * v1) + v2).toInt < 160 then (oH (dU h 17 (((40 * v1) + v2).toInt.toNat) v3) (fun g21 => some (1, g21))) else none)) else none)) else none))) else none)) else none))
theorem m_X7_cell {d : Nat} (hd : 3 ≤ d) (v1 : Int32) (v2 : Int32) (v3 : Int32) (h : dH) : dX shM d 228 [.ref 0, .int v1, .int v2, .int v3] dI (f_X7_cell v1 v2 v3 h) h := by
  obtain ⟨e, rfl⟩ : ∃ e, d = e + 1 := ⟨d - 1, by omega⟩
  have hd : 2 ≤ e := by omega
  refine dX_of (mj := mj228) (lo := [some (.ref 0), some (.int v1), some (.int v2), some (.int v3)]) rfl (Nat.le_of_ble_eq_true rfl) rfl ?_
  unfold f_X7_cell
  refine y_iload_n (q := 1) rfl rfl rfl ?_
  refine y_callP (I := .invokestatic 436) (idx := 436) (KD := 0) (J := 236) (mj := mj226) (as := [.int v1]) (r := []) (q := 4) rfl (fun _ _ _ _ _ _ => rfl) rfl (by decide) rfl rfl rfl rfl rfl (Nat.le_of_ble_eq_true rfl) rfl rfl (m_X7_isSheet (Nat.le_trans (by decide) hd) v1 h) (fun r1 => ?_)
  refine y_ne0 (q := 10) (q' := 7) rfl rfl rfl rfl (fun c2 => ?_) (fun c3 => ?_)
  · skip
    refine y_bipush (x := (-2)) (q := 9) rfl (by decide) rfl ?_
    exact y_retI rfl (by decide) rfl rfl
  · skip
    refine y_aload_n (q := 11) rfl rfl rfl ?_
    refine y_getR (b := 14) (q := 14) rfl rfl (by decide) atM0 rfl rfl ?_
    refine y_iload_n (q := 15) rfl rfl rfl ?_
    refine y_guard (fun c4 => ?_)
    refine y_bald (n := 4) (N := 4) (X := v1.toInt) (K := v1.toInt.toNat) (q := 16) hbM rfl atM14 rfl rfl c4 rfl rfl ?_
    refine y_ne0 (q := 22) (q' := 19) rfl rfl rfl rfl (fun c5 => ?_) (fun c6 => ?_)
    · skip
      refine y_bipush (x := (-11)) (q := 21) rfl (by decide) rfl ?_
      exact y_retI rfl (by decide) rfl rfl
    · skip
      refine y_iload_n (q := 23) rfl rfl rfl ?_
      refine y_i2l (q := 24) rfl rfl ?_
      refine y_lconst (u := 0) (q := 25) rfl (by decide) rfl ?_
      refine y_aload_n (q := 26) rfl rfl rfl ?_
      refine y_getR (b := 16) (q := 29) rfl rfl (by decide) atM0 rfl rfl ?_
      refine y_iload_n (q := 30) rfl rfl rfl ?_
      refine y_guard (fun c7 => ?_)
      refine y_iald (n := 4) (N := 4) (X := v1.toInt) (K := v1.toInt.toNat) (q := 31) hbM rfl atM16 rfl rfl c7 rfl rfl ?_
      refine y_iconst (x := 1) (q := 32) rfl (by decide) rfl ?_
      refine y_isub (q := 33) rfl rfl ?_
      refine y_i2l (q := 34) rfl rfl ?_
      refine y_callP (I := .invokestatic 91) (idx := 91) (KD := 0) (J := 128) (mj := mj118) (as := [.long v2.toInt64, .long 0, .long ((h 16 (v1.toInt.toNat)) - 1).toInt64]) (r := []) (q := 37) rfl (fun _ _ _ _ _ _ => rfl) rfl (by decide) rfl rfl rfl rfl rfl (Nat.le_of_ble_eq_true rfl) rfl rfl (m_X7_in (Nat.le_trans (by decide) hd) (v2.toInt64) 0 (((h 16 (v1.toInt.toNat)) - 1).toInt64) h) (fun r8 => ?_)
      refine y_ne0 (q := 43) (q' := 40) rfl rfl rfl rfl (fun c9 => ?_) (fun c10 => ?_)
      · skip
        refine y_bipush (x := (-12)) (q := 42) rfl (by decide) rfl ?_
        exact y_retI rfl (by decide) rfl rfl
      · skip
        refine y_aload_n (q := 44) rfl rfl rfl ?_
        refine y_getR (b := 17) (q := 47) rfl rfl (by decide) atM0 rfl rfl ?_
        refine y_bipush (x := 40) (q := 49) rfl (by decide) rfl ?_
        refine y_iload_n (q := 50) rfl rfl rfl ?_
        refine y_imul (q := 51) rfl rfl ?_
        refine y_iload_n (q := 52) rfl rfl rfl ?_
        refine y_iadd (q := 53) rfl rfl ?_
        refine y_aload_n (q := 54) rfl rfl rfl ?_
        refine y_getR (b := 15) (q := 57) rfl rfl (by decide) atM0 rfl rfl ?_
        refine y_iload_n (q := 58) rfl rfl rfl ?_
        refine y_guard (fun c11 => ?_)
        refine y_iald (n := 4) (N := 4) (X := v1.toInt) (K := v1.toInt.toNat) (q := 59) hbM rfl atM15 rfl rfl c11 rfl rfl ?_
        refine y_ne0 (q := 67) (q' := 62) rfl rfl rfl rfl (fun c12 => ?_) (fun c13 => ?_)
        · skip
          refine y_iload_n (q := 63) rfl rfl rfl ?_
          refine y_i2b (q := 64) rfl rfl ?_
          refine y_goto (q := 83) rfl rfl ?_
          refine y_guard (fun c15 => ?_)
          refine y_iast (n := 160) (N := 160) (X := ((40 * v1) + v2).toInt) (K := ((40 * v1) + v2).toInt.toNat) (q := 84) rfl atM17 rfl rfl c15 rfl rfl (fun g14 => ?_)
          refine y_iconst (x := 1) (q := 85) rfl (by decide) rfl ?_
          exact y_retI rfl (by decide) rfl rfl
        · skip
          refine y_aload_n (q := 68) rfl rfl rfl ?_
          refine y_getR (b := 15) (q := 71) rfl rfl (by decide) atM0 rfl rfl ?_
          refine y_iload_n (q := 72) rfl rfl rfl ?_
          refine y_guard (fun c16 => ?_)
          refine y_iald (n := 4) (N := 4) (X := v1.toInt) (K := v1.toInt.toNat) (q := 73) hbM rfl atM15 rfl rfl c16 rfl rfl ?_
          refine y_iconst (x := 1) (q := 74) rfl (by decide) rfl ?_
          refine y_ne (q := 82) (q' := 77) rfl rfl (by decide) rfl rfl (fun c17 => ?_) (fun c18 => ?_)
          · skip
            refine y_iload_n (q := 78) rfl rfl rfl ?_
            refine y_i2s (q := 79) rfl rfl ?_
            refine y_goto (q := 83) rfl rfl ?_
            refine y_guard (fun c20 => ?_)
            refine y_iast (n := 160) (N := 160) (X := ((40 * v1) + v2).toInt) (K := ((40 * v1) + v2).toInt.toNat) (q := 84) rfl atM17 rfl rfl c20 rfl rfl (fun g19 => ?_)
            refine y_iconst (x := 1) (q := 85) rfl (by decide) rfl ?_
            exact y_retI rfl (by decide) rfl rfl
          · skip
            refine y_iload_n (q := 83) rfl rfl rfl ?_
            refine y_guard (fun c22 => ?_)
            refine y_iast (n := 160) (N := 160) (X := ((40 * v1) + v2).toInt) (K := ((40 * v1) + v2).toInt.toNat) (q := 84) rfl atM17 rfl rfl c22 rfl rfl (fun g21 => ?_)
            refine y_iconst (x := 1) (q := 85) rfl (by decide) rfl ?_
            exact y_retI rfl (by decide) rfl rfl
def l_X7_copy_121 (v1 : Int32) (v2 : Int32) (v3 : Int32) (v4 : Int32) (v5 : Int32) (v6 : Int32) (k : dH → Option (Int32 × dH)) : Nat → Int32 → dH → Option (Int32 × dH)
  | 0, _, _ => none
  | n + 1, v7, h => if v7.toInt < v5.toInt then (if v6.toInt = 0 then (if 0 ≤ (((40 * v1) + v2) + v7).toInt ∧ (((40 * v1) + v2) + v7).toInt < 160 then (if 0 ≤ (((40 * v3) + v4) + v7).toInt ∧ (((40 * v3) + v4) + v7).toInt < 160 then (oH (dU h 17 ((((40 * v3) + v4) + v7).toInt.toNat) (h 17 ((((40 * v1) + v2) + v7).toInt.toNat))) (fun g38 => l_X7_copy_121 v1 v2 v3 v4 v5 v6 k n (v7 + 1) g38)) else none) else none) else (if 0 ≤ (((40 * v1) + v2) + ((v5 - 1) - v7)).toInt ∧ (((40 * v1) + v2) + ((v5 - 1) - v7)).toInt < 160 then (if 0 ≤ (((40 * v3) + v4) + ((v5 - 1) - v7)).toInt ∧ (((40 * v3) + v4) + ((v5 - 1) - v7)).toInt < 160 then (oH (dU h 17 ((((40 * v3) + v4) + ((v5 - 1) - v7)).toInt.toNat) (h 17 ((((40 * v1) + v2) + ((v5 - 1) - v7)).toInt.toNat))) (fun g41 => l_X7_copy_121 v1 v2 v3 v4 v5 v6 k n (v7 + 1) g41)) else none) else none)) else (k  h)
theorem lz_X7_copy_121 {d : Nat} (hd : 2 ≤ d) (v1 : Int32) (v2 : Int32) (v3 : Int32) (v4 : Int32) (v5 : Int32) (v6 : Int32) (k : dH → Option (Int32 × dH)) (hk : ∀ (w7 : Int32) (z8 : Option Value) (h : dH), dY shM d mj229 dI (k h) 182 [some (.ref 0), some (.int v1), some (.int v2), some (.int v3), some (.int v4), some (.int v5), some (.int v6), some (.int w7), z8] [] h) : ∀ (n : Nat) (v7 : Int32) (h : dH) (z8 : Option Value), dY shM d mj229 dI (l_X7_copy_121 v1 v2 v3 v4 v5 v6 k n v7 h) 121 [some (.ref 0), some (.int v1), some (.int v2), some (.int v3), some (.int v4), some (.int v5), some (.int v6), some (.int v7), z8] [] h
  | 0, _, _, _ => dY_none
  | n + 1, v7, h, z8 => by
    rw [l_X7_copy_121]
    refine y_iload (q := 123) rfl rfl rfl ?_
    refine y_iload (q := 125) rfl rfl rfl ?_
    refine y_ge (q := 182) (q' := 128) rfl rfl rfl rfl rfl (fun c33 => ?_) (fun c34 => ?_)
    · skip
      refine y_iload (q := 130) rfl rfl rfl ?_
      refine y_eq0 (q := 143) (q' := 133) rfl rfl rfl rfl (fun c35 => ?_) (fun c36 => ?_)
      · skip
        refine y_iload (q := 145) rfl rfl rfl ?_
        refine y_istore (lo' := [some (.ref 0), some (.int v1), some (.int v2), some (.int v3), some (.int v4), some (.int v5), some (.int v6), some (.int v7), some (.int v7)]) (q := 147) rfl (Nat.le_of_ble_eq_true rfl) rfl rfl ?_
        refine y_aload_n (q := 148) rfl rfl rfl ?_
        refine y_getR (b := 17) (q := 151) rfl rfl (by decide) atM0 rfl rfl ?_
        refine y_bipush (x := 40) (q := 153) rfl (by decide) rfl ?_
        refine y_iload_n (q := 154) rfl rfl rfl ?_
        refine y_imul (q := 155) rfl rfl ?_
        refine y_iload (q := 157) rfl rfl rfl ?_
        refine y_iadd (q := 158) rfl rfl ?_
        refine y_iload (q := 160) rfl rfl rfl ?_
        refine y_iadd (q := 161) rfl rfl ?_
        refine y_aload_n (q := 162) rfl rfl rfl ?_
        refine y_getR (b := 17) (q := 165) rfl rfl (by decide) atM0 rfl rfl ?_
        refine y_bipush (x := 40) (q := 167) rfl (by decide) rfl ?_
        refine y_iload_n (q := 168) rfl rfl rfl ?_
        refine y_imul (q := 169) rfl rfl ?_
        refine y_iload_n (q := 170) rfl rfl rfl ?_
        refine y_iadd (q := 171) rfl rfl ?_
        refine y_iload (q := 173) rfl rfl rfl ?_
        refine y_iadd (q := 174) rfl rfl ?_
        refine y_guard (fun c37 => ?_)
        refine y_iald (n := 160) (N := 160) (X := (((40 * v1) + v2) + v7).toInt) (K := (((40 * v1) + v2) + v7).toInt.toNat) (q := 175) hbM rfl atM17 rfl rfl c37 rfl rfl ?_
        refine y_guard (fun c39 => ?_)
        refine y_iast (n := 160) (N := 160) (X := (((40 * v3) + v4) + v7).toInt) (K := (((40 * v3) + v4) + v7).toInt.toNat) (q := 176) rfl atM17 rfl rfl c39 rfl rfl (fun g38 => ?_)
        refine y_iinc (z := (v7 + 1)) (lo' := [some (.ref 0), some (.int v1), some (.int v2), some (.int v3), some (.int v4), some (.int v5), some (.int v6), some (.int (v7 + 1)), some (.int v7)]) (q := 179) rfl rfl (Nat.le_of_ble_eq_true rfl) (by rw [oi_1]) rfl rfl ?_
        refine y_goto (q := 121) rfl rfl ?_
        exact lz_X7_copy_121 hd v1 v2 v3 v4 v5 v6 k hk n (v7 + 1) g38 (some (.int v7))
      · skip
        refine y_iload (q := 135) rfl rfl rfl ?_
        refine y_iconst (x := 1) (q := 136) rfl (by decide) rfl ?_
        refine y_isub (q := 137) rfl rfl ?_
        refine y_iload (q := 139) rfl rfl rfl ?_
        refine y_isub (q := 140) rfl rfl ?_
        refine y_goto (q := 145) rfl rfl ?_
        refine y_istore (lo' := [some (.ref 0), some (.int v1), some (.int v2), some (.int v3), some (.int v4), some (.int v5), some (.int v6), some (.int v7), some (.int ((v5 - 1) - v7))]) (q := 147) rfl (Nat.le_of_ble_eq_true rfl) rfl rfl ?_
        refine y_aload_n (q := 148) rfl rfl rfl ?_
        refine y_getR (b := 17) (q := 151) rfl rfl (by decide) atM0 rfl rfl ?_
        refine y_bipush (x := 40) (q := 153) rfl (by decide) rfl ?_
        refine y_iload_n (q := 154) rfl rfl rfl ?_
        refine y_imul (q := 155) rfl rfl ?_
        refine y_iload (q := 157) rfl rfl rfl ?_
        refine y_iadd (q := 158) rfl rfl ?_
        refine y_iload (q := 160) rfl rfl rfl ?_
        refine y_iadd (q := 161) rfl rfl ?_
        refine y_aload_n (q := 162) rfl rfl rfl ?_
        refine y_getR (b := 17) (q := 165) rfl rfl (by decide) atM0 rfl rfl ?_
        refine y_bipush (x := 40) (q := 167) rfl (by decide) rfl ?_
        refine y_iload_n (q := 168) rfl rfl rfl ?_
        refine y_imul (q := 169) rfl rfl ?_
        refine y_iload_n (q := 170) rfl rfl rfl ?_
        refine y_iadd (q := 171) rfl rfl ?_
        refine y_iload (q := 173) rfl rfl rfl ?_
        refine y_iadd (q := 174) rfl rfl ?_
        refine y_guard (fun c40 => ?_)
        refine y_iald (n := 160) (N := 160) (X := (((40 * v1) + v2) + ((v5 - 1) - v7)).toInt) (K := (((40 * v1) + v2) + ((v5 - 1) - v7)).toInt.toNat) (q := 175) hbM rfl atM17 rfl rfl c40 rfl rfl ?_
        refine y_guard (fun c42 => ?_)
        refine y_iast (n := 160) (N := 160) (X := (((40 * v3) + v4) + ((v5 - 1) - v7)).toInt) (K := (((40 * v3) + v4) + ((v5 - 1) - v7)).toInt.toNat) (q := 176) rfl atM17 rfl rfl c42 rfl rfl (fun g41 => ?_)
        refine y_iinc (z := (v7 + 1)) (lo' := [some (.ref 0), some (.int v1), some (.int v2), some (.int v3), some (.int v4), some (.int v5), some (.int v6), some (.int (v7 + 1)), some (.int ((v5 - 1) - v7))]) (q := 179) rfl rfl (Nat.le_of_ble_eq_true rfl) (by rw [oi_1]) rfl rfl ?_
        refine y_goto (q := 121) rfl rfl ?_
        exact lz_X7_copy_121 hd v1 v2 v3 v4 v5 v6 k hk n (v7 + 1) g41 (some (.int ((v5 - 1) - v7)))
    · skip
      exact hk  v7 (z8) h
def f_X7_copy (v1 : Int32) (v2 : Int32) (v3 : Int32) (v4 : Int32) (v5 : Int32) (h : dH) : Option (Int32 × dH) := oP (f_X7_isSheet v1) (fun r1 => if r1.toInt = 0 then (some ((-2), h)) else (oP (f_X7_isSheet v3) (fun r4 => if r4.toInt = 0 then (some ((-2), h)) else (if 0 ≤ v1.toInt ∧ v1.toInt < 4 then (if (h 14 (v1.toInt.toNat)).toInt = 0 then (some ((-11), h)) else (if 0 ≤ v3.toInt ∧ v3.toInt < 4 then (if (h 14 (v3.toInt.toNat)).toInt = 0 then (some ((-11), h)) else (if 0 ≤ v1.toInt ∧ v1.toInt < 4 then (if 0 ≤ v3.toInt ∧ v3.toInt < 4 then (if (h 15 (v1.toInt.toNat)).toInt = (h 15 (v3.toInt.toNat)).toInt then (if v5.toInt < 0 then (some ((-12), h)) else (if v2.toInt < 0 then (some ((-12), h)) else (if v4.toInt < 0 then (some ((-12), h)) else (if 0 ≤ v1.toInt ∧ v1.toInt < 4 then (if ((h 16 (v1.toInt.toNat)) - v5).toInt < v2.toInt then (some ((-12), h)) else (if 0 ≤ v3.toInt ∧ v3.toInt < 4 then (if ((h 16 (v3.toInt.toNat)) - v5).toInt < v4.toInt then (some ((-12), h)) else (if v1.toInt = v3.toInt then (if v2.toInt < v4.toInt then (l_X7_copy_121 v1 v2 v3 v4 v5 1  (fun g45 => some (v5, g45)) fuel0 0 h) else (l_X7_copy_121 v1 v2 v3 v4 v5 0  (fun g48 => some (v5, g48)) fuel0 0 h)) else (l_X7_copy_121 v1 v2 v3 v4 v5 0  (fun g51 => some (v5, g51)) fuel0 0 h))) else none)) else none)))) else (some ((-13), h))) else none) else none)) else none)) else none))))
theorem m_X7_copy {d : Nat} (hd : 3 ≤ d) (v1 : Int32) (v2 : Int32) (v3 : Int32) (v4 : Int32) (v5 : Int32) (h : dH) : dX shM d 229 [.ref 0, .int v1, .int v2, .int v3, .int v4, .int v5] dI (f_X7_copy v1 v2 v3 v4 v5 h) h := by
  obtain ⟨e, rfl⟩ : ∃ e, d = e + 1 := ⟨d - 1, by omega⟩
  have hd : 2 ≤ e := by omega
  refine dX_of (mj := mj229) (lo := [some (.ref 0), some (.int v1), some (.int v2), some (.int v3), some (.int v4), some (.int v5), none, none, none]) rfl (Nat.le_of_ble_eq_true rfl) rfl ?_
  unfold f_X7_copy
  refine y_iload_n (q := 1) rfl rfl rfl ?_
  refine y_callP (I := .invokestatic 436) (idx := 436) (KD := 0) (J := 236) (mj := mj226) (as := [.int v1]) (r := []) (q := 4) rfl (fun _ _ _ _ _ _ => rfl) rfl (by decide) rfl rfl rfl rfl rfl (Nat.le_of_ble_eq_true rfl) rfl rfl (m_X7_isSheet (Nat.le_trans (by decide) hd) v1 h) (fun r1 => ?_)
  refine y_eq0 (q := 14) (q' := 7) rfl rfl rfl rfl (fun c2 => ?_) (fun c3 => ?_)
  · skip
    refine y_bipush (x := (-2)) (q := 16) rfl (by decide) rfl ?_
    exact y_retI rfl (by decide) rfl rfl
  · skip
    refine y_iload_n (q := 8) rfl rfl rfl ?_
    refine y_callP (I := .invokestatic 436) (idx := 436) (KD := 0) (J := 236) (mj := mj226) (as := [.int v3]) (r := []) (q := 11) rfl (fun _ _ _ _ _ _ => rfl) rfl (by decide) rfl rfl rfl rfl rfl (Nat.le_of_ble_eq_true rfl) rfl rfl (m_X7_isSheet (Nat.le_trans (by decide) hd) v3 h) (fun r4 => ?_)
    refine y_ne0 (q := 17) (q' := 14) rfl rfl rfl rfl (fun c5 => ?_) (fun c6 => ?_)
    · skip
      refine y_bipush (x := (-2)) (q := 16) rfl (by decide) rfl ?_
      exact y_retI rfl (by decide) rfl rfl
    · skip
      refine y_aload_n (q := 18) rfl rfl rfl ?_
      refine y_getR (b := 14) (q := 21) rfl rfl (by decide) atM0 rfl rfl ?_
      refine y_iload_n (q := 22) rfl rfl rfl ?_
      refine y_guard (fun c7 => ?_)
      refine y_bald (n := 4) (N := 4) (X := v1.toInt) (K := v1.toInt.toNat) (q := 23) hbM rfl atM14 rfl rfl c7 rfl rfl ?_
      refine y_eq0 (q := 35) (q' := 26) rfl rfl rfl rfl (fun c8 => ?_) (fun c9 => ?_)
      · skip
        refine y_bipush (x := (-11)) (q := 37) rfl (by decide) rfl ?_
        exact y_retI rfl (by decide) rfl rfl
      · skip
        refine y_aload_n (q := 27) rfl rfl rfl ?_
        refine y_getR (b := 14) (q := 30) rfl rfl (by decide) atM0 rfl rfl ?_
        refine y_iload_n (q := 31) rfl rfl rfl ?_
        refine y_guard (fun c10 => ?_)
        refine y_bald (n := 4) (N := 4) (X := v3.toInt) (K := v3.toInt.toNat) (q := 32) hbM rfl atM14 rfl rfl c10 rfl rfl ?_
        refine y_ne0 (q := 38) (q' := 35) rfl rfl rfl rfl (fun c11 => ?_) (fun c12 => ?_)
        · skip
          refine y_bipush (x := (-11)) (q := 37) rfl (by decide) rfl ?_
          exact y_retI rfl (by decide) rfl rfl
        · skip
          refine y_aload_n (q := 39) rfl rfl rfl ?_
          refine y_getR (b := 15) (q := 42) rfl rfl (by decide) atM0 rfl rfl ?_
          refine y_iload_n (q := 43) rfl rfl rfl ?_
          refine y_guard (fun c13 => ?_)
          refine y_iald (n := 4) (N := 4) (X := v1.toInt) (K := v1.toInt.toNat) (q := 44) hbM rfl atM15 rfl rfl c13 rfl rfl ?_
          refine y_aload_n (q := 45) rfl rfl rfl ?_
          refine y_getR (b := 15) (q := 48) rfl rfl (by decide) atM0 rfl rfl ?_
          refine y_iload_n (q := 49) rfl rfl rfl ?_
          refine y_guard (fun c14 => ?_)
          refine y_iald (n := 4) (N := 4) (X := v3.toInt) (K := v3.toInt.toNat) (q := 50) hbM rfl atM15 rfl rfl c14 rfl rfl ?_
          refine y_eq (q := 56) (q' := 53) rfl rfl rfl rfl rfl (fun c15 => ?_) (fun c16 => ?_)
          · skip
            refine y_iload (q := 58) rfl rfl rfl ?_
            refine y_lt0 (q := 97) (q' := 61) rfl rfl rfl rfl (fun c17 => ?_) (fun c18 => ?_)
            · skip
              refine y_bipush (x := (-12)) (q := 99) rfl (by decide) rfl ?_
              exact y_retI rfl (by decide) rfl rfl
            · skip
              refine y_iload_n (q := 62) rfl rfl rfl ?_
              refine y_lt0 (q := 97) (q' := 65) rfl rfl rfl rfl (fun c19 => ?_) (fun c20 => ?_)
              · skip
                refine y_bipush (x := (-12)) (q := 99) rfl (by decide) rfl ?_
                exact y_retI rfl (by decide) rfl rfl
              · skip
                refine y_iload (q := 67) rfl rfl rfl ?_
                refine y_lt0 (q := 97) (q' := 70) rfl rfl rfl rfl (fun c21 => ?_) (fun c22 => ?_)
                · skip
                  refine y_bipush (x := (-12)) (q := 99) rfl (by decide) rfl ?_
                  exact y_retI rfl (by decide) rfl rfl
                · skip
                  refine y_iload_n (q := 71) rfl rfl rfl ?_
                  refine y_aload_n (q := 72) rfl rfl rfl ?_
                  refine y_getR (b := 16) (q := 75) rfl rfl (by decide) atM0 rfl rfl ?_
                  refine y_iload_n (q := 76) rfl rfl rfl ?_
                  refine y_guard (fun c23 => ?_)
                  refine y_iald (n := 4) (N := 4) (X := v1.toInt) (K := v1.toInt.toNat) (q := 77) hbM rfl atM16 rfl rfl c23 rfl rfl ?_
                  refine y_iload (q := 79) rfl rfl rfl ?_
                  refine y_isub (q := 80) rfl rfl ?_
                  refine y_gt (q := 97) (q' := 83) rfl rfl rfl rfl rfl (fun c24 => ?_) (fun c25 => ?_)
                  · skip
                    refine y_bipush (x := (-12)) (q := 99) rfl (by decide) rfl ?_
                    exact y_retI rfl (by decide) rfl rfl
                  · skip
                    refine y_iload (q := 85) rfl rfl rfl ?_
                    refine y_aload_n (q := 86) rfl rfl rfl ?_
                    refine y_getR (b := 16) (q := 89) rfl rfl (by decide) atM0 rfl rfl ?_
                    refine y_iload_n (q := 90) rfl rfl rfl ?_
                    refine y_guard (fun c26 => ?_)
                    refine y_iald (n := 4) (N := 4) (X := v3.toInt) (K := v3.toInt.toNat) (q := 91) hbM rfl atM16 rfl rfl c26 rfl rfl ?_
                    refine y_iload (q := 93) rfl rfl rfl ?_
                    refine y_isub (q := 94) rfl rfl ?_
                    refine y_le (q := 100) (q' := 97) rfl rfl rfl rfl rfl (fun c27 => ?_) (fun c28 => ?_)
                    · skip
                      refine y_bipush (x := (-12)) (q := 99) rfl (by decide) rfl ?_
                      exact y_retI rfl (by decide) rfl rfl
                    · skip
                      refine y_iload_n (q := 101) rfl rfl rfl ?_
                      refine y_iload_n (q := 102) rfl rfl rfl ?_
                      refine y_ne (q := 115) (q' := 105) rfl rfl rfl rfl rfl (fun c29 => ?_) (fun c30 => ?_)
                      · skip
                        refine y_iload_n (q := 106) rfl rfl rfl ?_
                        refine y_iload (q := 108) rfl rfl rfl ?_
                        refine y_ge (q := 115) (q' := 111) rfl rfl rfl rfl rfl (fun c31 => ?_) (fun c32 => ?_)
                        · skip
                          refine y_iconst (x := 1) (q := 112) rfl (by decide) rfl ?_
                          refine y_goto (q := 116) rfl rfl ?_
                          refine y_istore (lo' := [some (.ref 0), some (.int v1), some (.int v2), some (.int v3), some (.int v4), some (.int v5), some (.int 1), none, none]) (q := 118) rfl (Nat.le_of_ble_eq_true rfl) rfl rfl ?_
                          refine y_iconst (x := 0) (q := 119) rfl (by decide) rfl ?_
                          refine y_istore (lo' := [some (.ref 0), some (.int v1), some (.int v2), some (.int v3), some (.int v4), some (.int v5), some (.int 1), some (.int 0), none]) (q := 121) rfl (Nat.le_of_ble_eq_true rfl) rfl rfl ?_
                          refine lz_X7_copy_121 hd v1 v2 v3 v4 v5 1  _ (fun z43 z44 g45 => ?_) fuel0 0 h (none)
                          refine y_iload (q := 184) rfl rfl rfl ?_
                          exact y_retI rfl (by decide) rfl rfl
                        · skip
                          refine y_iconst (x := 0) (q := 116) rfl (by decide) rfl ?_
                          refine y_istore (lo' := [some (.ref 0), some (.int v1), some (.int v2), some (.int v3), some (.int v4), some (.int v5), some (.int 0), none, none]) (q := 118) rfl (Nat.le_of_ble_eq_true rfl) rfl rfl ?_
                          refine y_iconst (x := 0) (q := 119) rfl (by decide) rfl ?_
                          refine y_istore (lo' := [some (.ref 0), some (.int v1), some (.int v2), some (.int v3), some (.int v4), some (.int v5), some (.int 0), some (.int 0), none]) (q := 121) rfl (Nat.le_of_ble_eq_true rfl) rfl rfl ?_
                          refine lz_X7_copy_121 hd v1 v2 v3 v4 v5 0  _ (fun z46 z47 g48 => ?_) fuel0 0 h (none)
                          refine y_iload (q := 184) rfl rfl rfl ?_
                          exact y_retI rfl (by decide) rfl rfl
                      · skip
                        refine y_iconst (x := 0) (q := 116) rfl (by decide) rfl ?_
                        refine y_istore (lo' := [some (.ref 0), some (.int v1), some (.int v2), some (.int v3), some (.int v4), some (.int v5), some (.int 0), none, none]) (q := 118) rfl (Nat.le_of_ble_eq_true rfl) rfl rfl ?_
                        refine y_iconst (x := 0) (q := 119) rfl (by decide) rfl ?_
                        refine y_istore (lo' := [some (.ref 0), some (.int v1), some (.int v2), some (.int v3), some (.int v4), some (.int v5), some (.int 0), some (.int 0), none]) (q := 121) rfl (Nat.le_of_ble_eq_true rfl) rfl rfl ?_
                        refine lz_X7_copy_121 hd v1 v2 v3 v4 v5 0  _ (fun z49 z50 g51 => ?_) fuel0 0 h (none)
                        refine y_iload (q := 184) rfl rfl rfl ?_
                        exact y_retI rfl (by decide) rfl rfl
          · skip
            refine y_bipush (x := (-13)) (q := 55) rfl (by decide) rfl ?_
            exact y_retI rfl (by decide) rfl rfl
def l_X7_houses_75 (v1 : Int32) (v3 : Int32) (v4 : Int32) (k : Int32 → dH → Option (Int32 × dH)) : Nat → Int32 → Int32 → dH → Option (Int32 × dH)
  | 0, _, _, _ => none
  | n + 1, v5, v6, h => if v6.toInt < v4.toInt then (if v3.toInt < 0 then (some ((-12), h)) else (if 0 ≤ v1.toInt ∧ v1.toInt < 4 then (if (((h 16 (v1.toInt.toNat)) - (2 * v6)) - 2).toInt < v3.toInt then (some ((-12), h)) else (if 0 ≤ (((40 * v1) + v3) + (2 * v6)).toInt ∧ (((40 * v1) + v3) + (2 * v6)).toInt < 160 then (if 0 ≤ ((((40 * v1) + v3) + (2 * v6)) + 1).toInt ∧ ((((40 * v1) + v3) + (2 * v6)) + 1).toInt < 160 then (oI (f_X7_house (h 17 ((((40 * v1) + v3) + (2 * v6)).toInt.toNat)) (h 17 (((((40 * v1) + v3) + (2 * v6)) + 1).toInt.toNat)) h) (fun r25 g26 => if r25.toInt < 0 then (l_X7_houses_75 v1 v3 v4 k n (v5 + 0) (v6 + 1) g26) else (l_X7_houses_75 v1 v3 v4 k n (v5 + 1) (v6 + 1) g26))) else none) else none)) else none)) else (k v5 h)
theorem lz_X7_houses_75 {d : Nat} (hd : 3 ≤ d) (v1 : Int32) (v2 : Int32) (v3 : Int32) (v4 : Int32) (k : Int32 → dH → Option (Int32 × dH)) (hk : ∀ (v5 : Int32) (w6 : Int32) (z7 : Option Value) (h : dH), dY shM d mj230 dI (k v5 h) 158 [some (.ref 0), some (.int v1), some (.int v2), some (.int v3), some (.int v4), some (.int v5), some (.int w6), z7] [] h) : ∀ (n : Nat) (v5 : Int32) (v6 : Int32) (h : dH) (z7 : Option Value), dY shM d mj230 dI (l_X7_houses_75 v1 v3 v4 k n v5 v6 h) 75 [some (.ref 0), some (.int v1), some (.int v2), some (.int v3), some (.int v4), some (.int v5), some (.int v6), z7] [] h
  | 0, _, _, _, _ => dY_none
  | n + 1, v5, v6, h, z7 => by
    rw [l_X7_houses_75]
    refine y_iload (q := 77) rfl rfl rfl ?_
    refine y_iload (q := 79) rfl rfl rfl ?_
    refine y_ge (q := 158) (q' := 82) rfl rfl rfl rfl rfl (fun c16 => ?_) (fun c17 => ?_)
    · skip
      refine y_iload_n (q := 83) rfl rfl rfl ?_
      refine y_lt0 (q := 103) (q' := 86) rfl rfl rfl rfl (fun c18 => ?_) (fun c19 => ?_)
      · skip
        refine y_bipush (x := (-12)) (q := 105) rfl (by decide) rfl ?_
        exact y_retI rfl (by decide) rfl rfl
      · skip
        refine y_iload_n (q := 87) rfl rfl rfl ?_
        refine y_aload_n (q := 88) rfl rfl rfl ?_
        refine y_getR (b := 16) (q := 91) rfl rfl (by decide) atM0 rfl rfl ?_
        refine y_iload_n (q := 92) rfl rfl rfl ?_
        refine y_guard (fun c20 => ?_)
        refine y_iald (n := 4) (N := 4) (X := v1.toInt) (K := v1.toInt.toNat) (q := 93) hbM rfl atM16 rfl rfl c20 rfl rfl ?_
        refine y_iconst (x := 2) (q := 94) rfl (by decide) rfl ?_
        refine y_iload (q := 96) rfl rfl rfl ?_
        refine y_imul (q := 97) rfl rfl ?_
        refine y_isub (q := 98) rfl rfl ?_
        refine y_iconst (x := 2) (q := 99) rfl (by decide) rfl ?_
        refine y_isub (q := 100) rfl rfl ?_
        refine y_le (q := 106) (q' := 103) rfl rfl rfl rfl rfl (fun c21 => ?_) (fun c22 => ?_)
        · skip
          refine y_bipush (x := (-12)) (q := 105) rfl (by decide) rfl ?_
          exact y_retI rfl (by decide) rfl rfl
        · skip
          refine y_bipush (x := 40) (q := 108) rfl (by decide) rfl ?_
          refine y_iload_n (q := 109) rfl rfl rfl ?_
          refine y_imul (q := 110) rfl rfl ?_
          refine y_iload_n (q := 111) rfl rfl rfl ?_
          refine y_iadd (q := 112) rfl rfl ?_
          refine y_iconst (x := 2) (q := 113) rfl (by decide) rfl ?_
          refine y_iload (q := 115) rfl rfl rfl ?_
          refine y_imul (q := 116) rfl rfl ?_
          refine y_iadd (q := 117) rfl rfl ?_
          refine y_istore (lo' := [some (.ref 0), some (.int v1), some (.int v2), some (.int v3), some (.int v4), some (.int v5), some (.int v6), some (.int (((40 * v1) + v3) + (2 * v6)))]) (q := 119) rfl (Nat.le_of_ble_eq_true rfl) rfl rfl ?_
          refine y_iload (q := 121) rfl rfl rfl ?_
          refine y_aload_n (q := 122) rfl rfl rfl ?_
          refine y_aload_n (q := 123) rfl rfl rfl ?_
          refine y_getR (b := 17) (q := 126) rfl rfl (by decide) atM0 rfl rfl ?_
          refine y_iload (q := 128) rfl rfl rfl ?_
          refine y_guard (fun c23 => ?_)
          refine y_iald (n := 160) (N := 160) (X := (((40 * v1) + v3) + (2 * v6)).toInt) (K := (((40 * v1) + v3) + (2 * v6)).toInt.toNat) (q := 129) hbM rfl atM17 rfl rfl c23 rfl rfl ?_
          refine y_aload_n (q := 130) rfl rfl rfl ?_
          refine y_getR (b := 17) (q := 133) rfl rfl (by decide) atM0 rfl rfl ?_
          refine y_iload (q := 135) rfl rfl rfl ?_
          refine y_iconst (x := 1) (q := 136) rfl (by decide) rfl ?_
          refine y_iadd (q := 137) rfl rfl ?_
          refine y_guard (fun c24 => ?_)
          refine y_iald (n := 160) (N := 160) (X := ((((40 * v1) + v3) + (2 * v6)) + 1).toInt) (K := ((((40 * v1) + v3) + (2 * v6)) + 1).toInt.toNat) (q := 138) hbM rfl atM17 rfl rfl c24 rfl rfl ?_
          refine y_callI (I := .invokevirtual 468) (idx := 468) (KD := 1) (J := 138) (mj := mj128) (as := [.ref 0, .int (h 17 ((((40 * v1) + v3) + (2 * v6)).toInt.toNat)), .int (h 17 (((((40 * v1) + v3) + (2 * v6)) + 1).toInt.toNat))]) (r := [.int v5]) (q := 141) rfl (fun _ _ _ _ _ _ => rfl) rfl (by decide) rfl rfl rfl rfl rfl (Nat.le_of_ble_eq_true rfl) (d_recv atM0 (by decide) (by decide)) rfl (m_X7_house (Nat.le_trans (by decide) hd) (h 17 ((((40 * v1) + v3) + (2 * v6)).toInt.toNat)) (h 17 (((((40 * v1) + v3) + (2 * v6)) + 1).toInt.toNat)) h) (fun r25 g26 => ?_)
          refine y_lt0 (q := 148) (q' := 144) rfl rfl rfl rfl (fun c27 => ?_) (fun c28 => ?_)
          · skip
            refine y_iconst (x := 0) (q := 149) rfl (by decide) rfl ?_
            refine y_iadd (q := 150) rfl rfl ?_
            refine y_istore (lo' := [some (.ref 0), some (.int v1), some (.int v2), some (.int v3), some (.int v4), some (.int (v5 + 0)), some (.int v6), some (.int (((40 * v1) + v3) + (2 * v6)))]) (q := 152) rfl (Nat.le_of_ble_eq_true rfl) rfl rfl ?_
            refine y_iinc (z := (v6 + 1)) (lo' := [some (.ref 0), some (.int v1), some (.int v2), some (.int v3), some (.int v4), some (.int (v5 + 0)), some (.int (v6 + 1)), some (.int (((40 * v1) + v3) + (2 * v6)))]) (q := 155) rfl rfl (Nat.le_of_ble_eq_true rfl) (by rw [oi_1]) rfl rfl ?_
            refine y_goto (q := 75) rfl rfl ?_
            exact lz_X7_houses_75 hd v1 v2 v3 v4 k hk n (v5 + 0) (v6 + 1) g26 (some (.int (((40 * v1) + v3) + (2 * v6))))
          · skip
            refine y_iconst (x := 1) (q := 145) rfl (by decide) rfl ?_
            refine y_goto (q := 149) rfl rfl ?_
            refine y_iadd (q := 150) rfl rfl ?_
            refine y_istore (lo' := [some (.ref 0), some (.int v1), some (.int v2), some (.int v3), some (.int v4), some (.int (v5 + 1)), some (.int v6), some (.int (((40 * v1) + v3) + (2 * v6)))]) (q := 152) rfl (Nat.le_of_ble_eq_true rfl) rfl rfl ?_
            refine y_iinc (z := (v6 + 1)) (lo' := [some (.ref 0), some (.int v1), some (.int v2), some (.int v3), some (.int v4), some (.int (v5 + 1)), some (.int (v6 + 1)), some (.int (((40 * v1) + v3) + (2 * v6)))]) (q := 155) rfl rfl (Nat.le_of_ble_eq_true rfl) (by rw [oi_1]) rfl rfl ?_
            refine y_goto (q := 75) rfl rfl ?_
            exact lz_X7_houses_75 hd v1 v2 v3 v4 k hk n (v5 + 1) (v6 + 1) g26 (some (.int (((40 * v1) + v3) + (2 * v6))))
    · skip
      exact hk v5 v6 (z7) h
def f_X7_houses (v1 : Int32) (v2 : Int32) (v3 : Int32) (v4 : Int32) (h : dH) : Option (Int32 × dH) := oP (f_X7_isSheet v1) (fun r1 => if r1.toInt = 0 then (some ((-2), h)) else (oP (f_X7_in (v2.toInt64) 0 2) (fun r4 => if r4.toInt = 0 then (some ((-2), h)) else (oP (f_X7_in (v4.toInt64) 0 8) (fun r7 => if r7.toInt = 0 then (some ((-2), h)) else (if 0 ≤ v1.toInt ∧ v1.toInt < 4 then (if (h 14 (v1.toInt.toNat)).toInt = 0 then (if 0 ≤ v1.toInt ∧ v1.toInt < 4 then (if (h 14 (v1.toInt.toNat)).toInt = 0 then (some ((-11), h)) else (l_X7_houses_75 v1 v3 v4  (fun v5_29 g32 => some (v5_29, g32)) fuel0 0 0 h)) else none) else (if 0 ≤ v1.toInt ∧ v1.toInt < 4 then (if (h 15 (v1.toInt.toNat)).toInt = v2.toInt then (if 0 ≤ v1.toInt ∧ v1.toInt < 4 then (if (h 14 (v1.toInt.toNat)).toInt = 0 then (some ((-11), h)) else (l_X7_houses_75 v1 v3 v4  (fun v5_39 g42 => some (v5_39, g42)) fuel0 0 0 h)) else none) else (some ((-13), h))) else none)) else none))))))
theorem m_X7_houses {d : Nat} (hd : 4 ≤ d) (v1 : Int32) (v2 : Int32) (v3 : Int32) (v4 : Int32) (h : dH) : dX shM d 230 [.ref 0, .int v1, .int v2, .int v3, .int v4] dI (f_X7_houses v1 v2 v3 v4 h) h := by
  obtain ⟨e, rfl⟩ : ∃ e, d = e + 1 := ⟨d - 1, by omega⟩
  have hd : 3 ≤ e := by omega
  refine dX_of (mj := mj230) (lo := [some (.ref 0), some (.int v1), some (.int v2), some (.int v3), some (.int v4), none, none, none]) rfl (Nat.le_of_ble_eq_true rfl) rfl ?_
  unfold f_X7_houses
  refine y_iload_n (q := 1) rfl rfl rfl ?_
  refine y_callP (I := .invokestatic 436) (idx := 436) (KD := 0) (J := 236) (mj := mj226) (as := [.int v1]) (r := []) (q := 4) rfl (fun _ _ _ _ _ _ => rfl) rfl (by decide) rfl rfl rfl rfl rfl (Nat.le_of_ble_eq_true rfl) rfl rfl (m_X7_isSheet (Nat.le_trans (by decide) hd) v1 h) (fun r1 => ?_)
  refine y_eq0 (q := 32) (q' := 7) rfl rfl rfl rfl (fun c2 => ?_) (fun c3 => ?_)
  · skip
    refine y_bipush (x := (-2)) (q := 34) rfl (by decide) rfl ?_
    exact y_retI rfl (by decide) rfl rfl
  · skip
    refine y_iload_n (q := 8) rfl rfl rfl ?_
    refine y_i2l (q := 9) rfl rfl ?_
    refine y_lconst (u := 0) (q := 10) rfl (by decide) rfl ?_
    refine y_ldc2_w (u := 2) (q := 13) rfl rfl rfl ?_
    refine y_callP (I := .invokestatic 91) (idx := 91) (KD := 0) (J := 128) (mj := mj118) (as := [.long v2.toInt64, .long 0, .long 2]) (r := []) (q := 16) rfl (fun _ _ _ _ _ _ => rfl) rfl (by decide) rfl rfl rfl rfl rfl (Nat.le_of_ble_eq_true rfl) rfl rfl (m_X7_in (Nat.le_trans (by decide) hd) (v2.toInt64) 0 2 h) (fun r4 => ?_)
    refine y_eq0 (q := 32) (q' := 19) rfl rfl rfl rfl (fun c5 => ?_) (fun c6 => ?_)
    · skip
      refine y_bipush (x := (-2)) (q := 34) rfl (by decide) rfl ?_
      exact y_retI rfl (by decide) rfl rfl
    · skip
      refine y_iload (q := 21) rfl rfl rfl ?_
      refine y_i2l (q := 22) rfl rfl ?_
      refine y_lconst (u := 0) (q := 23) rfl (by decide) rfl ?_
      refine y_ldc2_w (u := 8) (q := 26) rfl rfl rfl ?_
      refine y_callP (I := .invokestatic 91) (idx := 91) (KD := 0) (J := 128) (mj := mj118) (as := [.long v4.toInt64, .long 0, .long 8]) (r := []) (q := 29) rfl (fun _ _ _ _ _ _ => rfl) rfl (by decide) rfl rfl rfl rfl rfl (Nat.le_of_ble_eq_true rfl) rfl rfl (m_X7_in (Nat.le_trans (by decide) hd) (v4.toInt64) 0 8 h) (fun r7 => ?_)
      refine y_ne0 (q := 35) (q' := 32) rfl rfl rfl rfl (fun c8 => ?_) (fun c9 => ?_)
      · skip
        refine y_bipush (x := (-2)) (q := 34) rfl (by decide) rfl ?_
        exact y_retI rfl (by decide) rfl rfl
      · skip
        refine y_aload_n (q := 36) rfl rfl rfl ?_
        refine y_getR (b := 14) (q := 39) rfl rfl (by decide) atM0 rfl rfl ?_
        refine y_iload_n (q := 40) rfl rfl rfl ?_
        refine y_guard (fun c10 => ?_)
        refine y_bald (n := 4) (N := 4) (X := v1.toInt) (K := v1.toInt.toNat) (q := 41) hbM rfl atM14 rfl rfl c10 rfl rfl ?_
        refine y_eq0 (q := 57) (q' := 44) rfl rfl rfl rfl (fun c11 => ?_) (fun c12 => ?_)
        · skip
          refine y_aload_n (q := 58) rfl rfl rfl ?_
          refine y_getR (b := 14) (q := 61) rfl rfl (by decide) atM0 rfl rfl ?_
          refine y_iload_n (q := 62) rfl rfl rfl ?_
          refine y_guard (fun c13 => ?_)
          refine y_bald (n := 4) (N := 4) (X := v1.toInt) (K := v1.toInt.toNat) (q := 63) hbM rfl atM14 rfl rfl c13 rfl rfl ?_
          refine y_ne0 (q := 69) (q' := 66) rfl rfl rfl rfl (fun c14 => ?_) (fun c15 => ?_)
          · skip
            refine y_bipush (x := (-11)) (q := 68) rfl (by decide) rfl ?_
            exact y_retI rfl (by decide) rfl rfl
          · skip
            refine y_iconst (x := 0) (q := 70) rfl (by decide) rfl ?_
            refine y_istore (lo' := [some (.ref 0), some (.int v1), some (.int v2), some (.int v3), some (.int v4), some (.int 0), none, none]) (q := 72) rfl (Nat.le_of_ble_eq_true rfl) rfl rfl ?_
            refine y_iconst (x := 0) (q := 73) rfl (by decide) rfl ?_
            refine y_istore (lo' := [some (.ref 0), some (.int v1), some (.int v2), some (.int v3), some (.int v4), some (.int 0), some (.int 0), none]) (q := 75) rfl (Nat.le_of_ble_eq_true rfl) rfl rfl ?_
            refine lz_X7_houses_75 hd v1 v2 v3 v4  _ (fun v5_29 z30 z31 g32 => ?_) fuel0 0 0 h (none)
            refine y_iload (q := 160) rfl rfl rfl ?_
            exact y_retI rfl (by decide) rfl rfl
        · skip
          refine y_aload_n (q := 45) rfl rfl rfl ?_
          refine y_getR (b := 15) (q := 48) rfl rfl (by decide) atM0 rfl rfl ?_
          refine y_iload_n (q := 49) rfl rfl rfl ?_
          refine y_guard (fun c33 => ?_)
          refine y_iald (n := 4) (N := 4) (X := v1.toInt) (K := v1.toInt.toNat) (q := 50) hbM rfl atM15 rfl rfl c33 rfl rfl ?_
          refine y_iload_n (q := 51) rfl rfl rfl ?_
          refine y_eq (q := 57) (q' := 54) rfl rfl rfl rfl rfl (fun c34 => ?_) (fun c35 => ?_)
          · skip
            refine y_aload_n (q := 58) rfl rfl rfl ?_
            refine y_getR (b := 14) (q := 61) rfl rfl (by decide) atM0 rfl rfl ?_
            refine y_iload_n (q := 62) rfl rfl rfl ?_
            refine y_guard (fun c36 => ?_)
            refine y_bald (n := 4) (N := 4) (X := v1.toInt) (K := v1.toInt.toNat) (q := 63) hbM rfl atM14 rfl rfl c36 rfl rfl ?_
            refine y_ne0 (q := 69) (q' := 66) rfl rfl rfl rfl (fun c37 => ?_) (fun c38 => ?_)
            · skip
              refine y_bipush (x := (-11)) (q := 68) rfl (by decide) rfl ?_
              exact y_retI rfl (by decide) rfl rfl
            · skip
              refine y_iconst (x := 0) (q := 70) rfl (by decide) rfl ?_
              refine y_istore (lo' := [some (.ref 0), some (.int v1), some (.int v2), some (.int v3), some (.int v4), some (.int 0), none, none]) (q := 72) rfl (Nat.le_of_ble_eq_true rfl) rfl rfl ?_
              refine y_iconst (x := 0) (q := 73) rfl (by decide) rfl ?_
              refine y_istore (lo' := [some (.ref 0), some (.int v1), some (.int v2), some (.int v3), some (.int v4), some (.int 0), some (.int 0), none]) (q := 75) rfl (Nat.le_of_ble_eq_true rfl) rfl rfl ?_
              refine lz_X7_houses_75 hd v1 v2 v3 v4  _ (fun v5_39 z40 z41 g42 => ?_) fuel0 0 0 h (none)
              refine y_iload (q := 160) rfl rfl rfl ?_
              exact y_retI rfl (by decide) rfl rfl
          · skip
            refine y_bipush (x := (-13)) (q := 56) rfl (by decide) rfl ?_
            exact y_retI rfl (by decide) rfl rfl
def f_X7_over (v0 : Int32) : Option (Int32) := if v0.toInt = 0 then ((some (-1))) else (if v0.toInt = 3 then ((some 1)) else (if v0.toInt = 4 then ((some 2)) else ((some 0))))
theorem m_X7_over {d : Nat} (hd : 1 ≤ d) (v0 : Int32) (h : dH) : dX shM d 231 [.int v0] (dP h) (f_X7_over v0) h := by
  obtain ⟨e, rfl⟩ : ∃ e, d = e + 1 := ⟨d - 1, by omega⟩
  have hd : 0 ≤ e := by omega
  refine dX_of (mj := mj231) (lo := [some (.int v0)]) rfl (Nat.le_of_ble_eq_true rfl) rfl ?_
  unfold f_X7_over
  refine y_iload_n (q := 1) rfl rfl rfl ?_
  refine y_ne0 (q := 8) (q' := 4) rfl rfl rfl rfl (fun c1 => ?_) (fun c2 => ?_)
  · skip
    refine y_iconst (x := (-1)) (q := 5) rfl (by decide) rfl ?_
    refine y_goto (q := 27) rfl rfl ?_
    exact y_retP rfl (by decide) rfl rfl
  · skip
    refine y_iload_n (q := 9) rfl rfl rfl ?_
    refine y_iconst (x := 3) (q := 10) rfl (by decide) rfl ?_
    refine y_ne (q := 17) (q' := 13) rfl rfl (by decide) rfl rfl (fun c3 => ?_) (fun c4 => ?_)
    · skip
      refine y_iconst (x := 1) (q := 14) rfl (by decide) rfl ?_
      refine y_goto (q := 27) rfl rfl ?_
      exact y_retP rfl (by decide) rfl rfl
    · skip
      refine y_iload_n (q := 18) rfl rfl rfl ?_
      refine y_iconst (x := 4) (q := 19) rfl (by decide) rfl ?_
      refine y_ne (q := 26) (q' := 22) rfl rfl (by decide) rfl rfl (fun c5 => ?_) (fun c6 => ?_)
      · skip
        refine y_iconst (x := 2) (q := 23) rfl (by decide) rfl ?_
        refine y_goto (q := 27) rfl rfl ?_
        exact y_retP rfl (by decide) rfl rfl
      · skip
        refine y_iconst (x := 0) (q := 27) rfl (by decide) rfl ?_
        exact y_retP rfl (by decide) rfl rfl
end
