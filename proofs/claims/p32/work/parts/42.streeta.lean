section
/-! X6_isHouse, X6_setting, X6_set, X6_settle, X6_house, X6_isTwo, X6_bind, X6_told, X6_feed, X6_text, X6_force, X6_isEither, X6_asks, X6_feast, X6_year, X6_figure, X6_street, X6_way, X6_isYears, X6_run, X6_isFriends, X6_takes, X6_best, X6_canChange, X6_change, X6_split (by program) -/
noncomputable section
def f_X6_isHouse (v1 : Int32) (h : dH) : Option (Int32) := if v1.toInt < 0 then ((some 0)) else (if v1.toInt < (h 43 2).toInt then ((some 1)) else ((some 0)))
theorem m_X6_isHouse {d : Nat} (hd : 1 ≤ d) (v1 : Int32) (h : dH) : dX shC d 97 [.ref 0, .int v1] (dP h) (f_X6_isHouse v1 h) h := by
  obtain ⟨e, rfl⟩ : ∃ e, d = e + 1 := ⟨d - 1, by omega⟩
  have hd : 0 ≤ e := by omega
  refine dX_of (mj := mj97) (lo := [some (.ref 0), some (.int v1)]) rfl (Nat.le_of_ble_eq_true rfl) rfl ?_
  unfold f_X6_isHouse
  refine y_iload_n (q := 1) rfl rfl rfl ?_
  refine y_lt0 (q := 19) (q' := 4) rfl rfl rfl rfl (fun c1 => ?_) (fun c2 => ?_)
  · skip
    refine y_iconst (x := 0) (q := 20) rfl (by decide) rfl ?_
    exact y_retP rfl (by decide) rfl rfl
  · skip
    refine y_iload_n (q := 5) rfl rfl rfl ?_
    refine y_aload_n (q := 6) rfl rfl rfl ?_
    refine y_getR (b := 43) (q := 9) rfl rfl (by decide) atC0 rfl rfl ?_
    refine y_getI (q := 12) rfl rfl (by decide) (shS zS43) rfl rfl ?_
    refine y_ge (q := 19) (q' := 15) rfl rfl rfl rfl rfl (fun c3 => ?_) (fun c4 => ?_)
    · skip
      refine y_iconst (x := 1) (q := 16) rfl (by decide) rfl ?_
      refine y_goto (q := 20) rfl rfl ?_
      exact y_retP rfl (by decide) rfl rfl
    · skip
      refine y_iconst (x := 0) (q := 20) rfl (by decide) rfl ?_
      exact y_retP rfl (by decide) rfl rfl
def f_X6_setting (v1 : Int32) (v2 : Int32) (h : dH) : Option (Int32) := if v1.toInt = 0 then ((some (h 43 0))) else (if v1.toInt = 1 then ((some (h 43 1))) else (if v1.toInt = 2 then (if 0 ≤ v2.toInt ∧ v2.toInt < 8 then ((some (h (43 + 2) (v2.toInt.toNat)))) else none) else (if 0 ≤ v2.toInt ∧ v2.toInt < 8 then ((some (h (43 + 3) (v2.toInt.toNat)))) else none)))
theorem m_X6_setting {d : Nat} (hd : 1 ≤ d) (v1 : Int32) (v2 : Int32) (h : dH) : dX shC d 105 [.ref 0, .int v1, .int v2] (dP h) (f_X6_setting v1 v2 h) h := by
  obtain ⟨e, rfl⟩ : ∃ e, d = e + 1 := ⟨d - 1, by omega⟩
  have hd : 0 ≤ e := by omega
  refine dX_of (mj := mj105) (lo := [some (.ref 0), some (.int v1), some (.int v2)]) rfl (Nat.le_of_ble_eq_true rfl) rfl ?_
  unfold f_X6_setting
  refine y_iload_n (q := 1) rfl rfl rfl ?_
  refine dY_ite (fun c1 => ?_) (fun c2 => ?_)
  · skip
    refine y_tabI (q := 28) 0 rfl c1 (by decide) (by decide) rfl rfl ?_
    refine y_aload_n (q := 29) rfl rfl rfl ?_
    refine y_getR (b := 43) (q := 32) rfl rfl (by decide) atC0 rfl rfl ?_
    refine y_getI (q := 35) rfl rfl (by decide) (shS zS43) rfl rfl ?_
    exact y_retP rfl (by decide) rfl rfl
  refine dY_ite (fun c3 => ?_) (fun c4 => ?_)
  · skip
    refine y_tabI (q := 36) 1 rfl c3 (by decide) (by decide) rfl rfl ?_
    refine y_aload_n (q := 37) rfl rfl rfl ?_
    refine y_getR (b := 43) (q := 40) rfl rfl (by decide) atC0 rfl rfl ?_
    refine y_getI (q := 43) rfl rfl (by decide) (shS zS43) rfl rfl ?_
    exact y_retP rfl (by decide) rfl rfl
  refine dY_ite (fun c5 => ?_) (fun c6 => ?_)
  · skip
    refine y_tabI (q := 44) 2 rfl c5 (by decide) (by decide) rfl rfl ?_
    refine y_aload_n (q := 45) rfl rfl rfl ?_
    refine y_getR (b := 43) (q := 48) rfl rfl (by decide) atC0 rfl rfl ?_
    refine y_getR (b := (43 + 2)) (q := 51) rfl rfl (by decide) (shS zS43) rfl rfl ?_
    refine y_iload_n (q := 52) rfl rfl rfl ?_
    refine y_guard (fun c7 => ?_)
    refine y_iald (n := 8) (N := 8) (X := v2.toInt) (K := v2.toInt.toNat) (q := 53) hbC rfl (shS2 zS43) rfl rfl c7 rfl rfl ?_
    exact y_retP rfl (by decide) rfl rfl
  refine y_tabD (q := 54) rfl (by omega) rfl ?_
  refine y_aload_n (q := 55) rfl rfl rfl ?_
  refine y_getR (b := 43) (q := 58) rfl rfl (by decide) atC0 rfl rfl ?_
  refine y_getR (b := (43 + 3)) (q := 61) rfl rfl (by decide) (shS zS43) rfl rfl ?_
  refine y_iload_n (q := 62) rfl rfl rfl ?_
  refine y_guard (fun c8 => ?_)
  refine y_iald (n := 8) (N := 8) (X := v2.toInt) (K := v2.toInt.toNat) (q := 63) hbC rfl (shS3 zS43) rfl rfl c8 rfl rfl ?_
  exact y_retP rfl (by decide) rfl rfl
def f_X6_set (v1 : Int32) (v2 : Int32) (v3 : Int32) (h : dH) : Option (Int32 × dH) := if v1.toInt < 0 then (some ((-2), h)) else (if 3 < v1.toInt then (some ((-2), h)) else (if v1.toInt < 2 then (if 0 ≤ v1.toInt ∧ v1.toInt < 4 then (if v3.toInt < (dtab 1 (v1.toInt.toNat)).toInt then (some ((-2), h)) else (if 0 ≤ v1.toInt ∧ v1.toInt < 4 then (if (dtab 2 (v1.toInt.toNat)).toInt < v3.toInt then (some ((-2), h)) else (oP (f_X6_setting v1 v2 h) (fun r13 => if v1.toInt = 0 then (oH (dU h 43 0 v3) (fun g16 => some (r13, g16))) else (if v1.toInt = 1 then (oH (dU h 43 1 v3) (fun g19 => some (r13, g19))) else (if v1.toInt = 2 then (if 0 ≤ v2.toInt ∧ v2.toInt < 8 then (oH (dU h (43 + 2) (v2.toInt.toNat) v3) (fun g22 => some (r13, g22))) else none) else (if 0 ≤ v2.toInt ∧ v2.toInt < 8 then (oH (dU h (43 + 3) (v2.toInt.toNat) v3) (fun g24 => some (r13, g24))) else none)))))) else none)) else none) else (oP (f_X6_isHouse v2 h) (fun r26 => if r26.toInt = 0 then (some ((-2), h)) else (if 0 ≤ v1.toInt ∧ v1.toInt < 4 then (if v3.toInt < (dtab 1 (v1.toInt.toNat)).toInt then (some ((-2), h)) else (if 0 ≤ v1.toInt ∧ v1.toInt < 4 then (if (dtab 2 (v1.toInt.toNat)).toInt < v3.toInt then (some ((-2), h)) else (oP (f_X6_setting v1 v2 h) (fun r35 => if v1.toInt = 0 then (oH (dU h 43 0 v3) (fun g38 => some (r35, g38))) else (if v1.toInt = 1 then (oH (dU h 43 1 v3) (fun g41 => some (r35, g41))) else (if v1.toInt = 2 then (if 0 ≤ v2.toInt ∧ v2.toInt < 8 then (oH (dU h (43 + 2) (v2.toInt.toNat) v3) (fun g44 => some (r35, g44))) else none) else (if 0 ≤ v2.toInt ∧ v2.toInt < 8 then (oH (dU h (43 + 3) (v2.toInt.toNat) v3) (fun g46 => some (r35, g46))) else none)))))) else none)) else none)))))
theorem m_X6_set {d : Nat} (hd : 2 ≤ d) (v1 : Int32) (v2 : Int32) (v3 : Int32) (h : dH) : dX shC d 66 [.ref 0, .int v1, .int v2, .int v3] dI (f_X6_set v1 v2 v3 h) h := by
  obtain ⟨e, rfl⟩ : ∃ e, d = e + 1 := ⟨d - 1, by omega⟩
  have hd : 1 ≤ e := by omega
  refine dX_of (mj := mj66) (lo := [some (.ref 0), some (.int v1), some (.int v2), some (.int v3), none]) rfl (Nat.le_of_ble_eq_true rfl) rfl ?_
  unfold f_X6_set
  refine y_iload_n (q := 1) rfl rfl rfl ?_
  refine y_lt0 (q := 9) (q' := 4) rfl rfl rfl rfl (fun c1 => ?_) (fun c2 => ?_)
  · skip
    refine y_bipush (x := (-2)) (q := 11) rfl (by decide) rfl ?_
    exact y_retI rfl (by decide) rfl rfl
  · skip
    refine y_iload_n (q := 5) rfl rfl rfl ?_
    refine y_iconst (x := 3) (q := 6) rfl (by decide) rfl ?_
    refine y_le (q := 12) (q' := 9) rfl rfl (by decide) rfl rfl (fun c3 => ?_) (fun c4 => ?_)
    · skip
      refine y_bipush (x := (-2)) (q := 11) rfl (by decide) rfl ?_
      exact y_retI rfl (by decide) rfl rfl
    · skip
      refine y_iload_n (q := 13) rfl rfl rfl ?_
      refine y_iconst (x := 2) (q := 14) rfl (by decide) rfl ?_
      refine y_lt (q := 28) (q' := 17) rfl rfl (by decide) rfl rfl (fun c5 => ?_) (fun c6 => ?_)
      · skip
        refine y_iload_n (q := 29) rfl rfl rfl ?_
        refine y_gets (v := .ref (xB + 1)) (q := 32) rfl rfl rfl rfl rfl ?_
        refine y_iload_n (q := 33) rfl rfl rfl ?_
        refine y_guard (fun c7 => ?_)
        refine y_iald0 (p := 1) (N := 4) (X := v1.toInt) (K := v1.toInt.toNat) (q := 34) rfl rfl (by decide) rfl rfl c7 rfl rfl ?_
        refine y_lt (q := 46) (q' := 37) rfl rfl rfl rfl rfl (fun c8 => ?_) (fun c9 => ?_)
        · skip
          refine y_bipush (x := (-2)) (q := 48) rfl (by decide) rfl ?_
          exact y_retI rfl (by decide) rfl rfl
        · skip
          refine y_iload_n (q := 38) rfl rfl rfl ?_
          refine y_gets (v := .ref (xB + 2)) (q := 41) rfl rfl rfl rfl rfl ?_
          refine y_iload_n (q := 42) rfl rfl rfl ?_
          refine y_guard (fun c10 => ?_)
          refine y_iald0 (p := 2) (N := 4) (X := v1.toInt) (K := v1.toInt.toNat) (q := 43) rfl rfl (by decide) rfl rfl c10 rfl rfl ?_
          refine y_le (q := 49) (q' := 46) rfl rfl rfl rfl rfl (fun c11 => ?_) (fun c12 => ?_)
          · skip
            refine y_bipush (x := (-2)) (q := 48) rfl (by decide) rfl ?_
            exact y_retI rfl (by decide) rfl rfl
          · skip
            refine y_aload_n (q := 50) rfl rfl rfl ?_
            refine y_iload_n (q := 51) rfl rfl rfl ?_
            refine y_iload_n (q := 52) rfl rfl rfl ?_
            refine y_callP (I := .invokevirtual 100) (idx := 100) (KD := 1) (J := 115) (mj := mj105) (as := [.ref 0, .int v1, .int v2]) (r := []) (q := 55) rfl (fun _ _ _ _ _ _ => rfl) rfl (by decide) rfl rfl rfl rfl rfl (Nat.le_of_ble_eq_true rfl) (d_recv atC0 (by decide) (by decide)) rfl (m_X6_setting (Nat.le_trans (by decide) hd) v1 v2 h) (fun r13 => ?_)
            refine y_istore (lo' := [some (.ref 0), some (.int v1), some (.int v2), some (.int v3), some (.int r13)]) (q := 57) rfl (Nat.le_of_ble_eq_true rfl) rfl rfl ?_
            refine y_iload_n (q := 58) rfl rfl rfl ?_
            refine dY_ite (fun c14 => ?_) (fun c15 => ?_)
            · skip
              refine y_tabI (q := 84) 0 rfl c14 (by decide) (by decide) rfl rfl ?_
              refine y_aload_n (q := 85) rfl rfl rfl ?_
              refine y_getR (b := 43) (q := 88) rfl rfl (by decide) atC0 rfl rfl ?_
              refine y_iload_n (q := 89) rfl rfl rfl ?_
              refine y_putI (q := 92) rfl rfl (by decide) (shS zS43) rfl rfl rfl rfl (fun g16 => ?_)
              refine y_goto (q := 129) rfl rfl ?_
              refine y_iload (q := 131) rfl rfl rfl ?_
              exact y_retI rfl (by decide) rfl rfl
            refine dY_ite (fun c17 => ?_) (fun c18 => ?_)
            · skip
              refine y_tabI (q := 95) 1 rfl c17 (by decide) (by decide) rfl rfl ?_
              refine y_aload_n (q := 96) rfl rfl rfl ?_
              refine y_getR (b := 43) (q := 99) rfl rfl (by decide) atC0 rfl rfl ?_
              refine y_iload_n (q := 100) rfl rfl rfl ?_
              refine y_putI (q := 103) rfl rfl (by decide) (shS zS43) rfl rfl rfl rfl (fun g19 => ?_)
              refine y_goto (q := 129) rfl rfl ?_
              refine y_iload (q := 131) rfl rfl rfl ?_
              exact y_retI rfl (by decide) rfl rfl
            refine dY_ite (fun c20 => ?_) (fun c21 => ?_)
            · skip
              refine y_tabI (q := 106) 2 rfl c20 (by decide) (by decide) rfl rfl ?_
              refine y_aload_n (q := 107) rfl rfl rfl ?_
              refine y_getR (b := 43) (q := 110) rfl rfl (by decide) atC0 rfl rfl ?_
              refine y_getR (b := (43 + 2)) (q := 113) rfl rfl (by decide) (shS zS43) rfl rfl ?_
              refine y_iload_n (q := 114) rfl rfl rfl ?_
              refine y_iload_n (q := 115) rfl rfl rfl ?_
              refine y_guard (fun c23 => ?_)
              refine y_iast (n := 8) (N := 8) (X := v2.toInt) (K := v2.toInt.toNat) (q := 116) rfl (shS2 zS43) rfl rfl c23 rfl rfl (fun g22 => ?_)
              refine y_goto (q := 129) rfl rfl ?_
              refine y_iload (q := 131) rfl rfl rfl ?_
              exact y_retI rfl (by decide) rfl rfl
            refine y_tabD (q := 119) rfl (by omega) rfl ?_
            refine y_aload_n (q := 120) rfl rfl rfl ?_
            refine y_getR (b := 43) (q := 123) rfl rfl (by decide) atC0 rfl rfl ?_
            refine y_getR (b := (43 + 3)) (q := 126) rfl rfl (by decide) (shS zS43) rfl rfl ?_
            refine y_iload_n (q := 127) rfl rfl rfl ?_
            refine y_iload_n (q := 128) rfl rfl rfl ?_
            refine y_guard (fun c25 => ?_)
            refine y_iast (n := 8) (N := 8) (X := v2.toInt) (K := v2.toInt.toNat) (q := 129) rfl (shS3 zS43) rfl rfl c25 rfl rfl (fun g24 => ?_)
            refine y_iload (q := 131) rfl rfl rfl ?_
            exact y_retI rfl (by decide) rfl rfl
      · skip
        refine y_aload_n (q := 18) rfl rfl rfl ?_
        refine y_iload_n (q := 19) rfl rfl rfl ?_
        refine y_callP (I := .invokevirtual 90) (idx := 90) (KD := 1) (J := 107) (mj := mj97) (as := [.ref 0, .int v2]) (r := []) (q := 22) rfl (fun _ _ _ _ _ _ => rfl) rfl (by decide) rfl rfl rfl rfl rfl (Nat.le_of_ble_eq_true rfl) (d_recv atC0 (by decide) (by decide)) rfl (m_X6_isHouse (Nat.le_trans (by decide) hd) v2 h) (fun r26 => ?_)
        refine y_ne0 (q := 28) (q' := 25) rfl rfl rfl rfl (fun c27 => ?_) (fun c28 => ?_)
        · skip
          refine y_bipush (x := (-2)) (q := 27) rfl (by decide) rfl ?_
          exact y_retI rfl (by decide) rfl rfl
        · skip
          refine y_iload_n (q := 29) rfl rfl rfl ?_
          refine y_gets (v := .ref (xB + 1)) (q := 32) rfl rfl rfl rfl rfl ?_
          refine y_iload_n (q := 33) rfl rfl rfl ?_
          refine y_guard (fun c29 => ?_)
          refine y_iald0 (p := 1) (N := 4) (X := v1.toInt) (K := v1.toInt.toNat) (q := 34) rfl rfl (by decide) rfl rfl c29 rfl rfl ?_
          refine y_lt (q := 46) (q' := 37) rfl rfl rfl rfl rfl (fun c30 => ?_) (fun c31 => ?_)
          · skip
            refine y_bipush (x := (-2)) (q := 48) rfl (by decide) rfl ?_
            exact y_retI rfl (by decide) rfl rfl
          · skip
            refine y_iload_n (q := 38) rfl rfl rfl ?_
            refine y_gets (v := .ref (xB + 2)) (q := 41) rfl rfl rfl rfl rfl ?_
            refine y_iload_n (q := 42) rfl rfl rfl ?_
            refine y_guard (fun c32 => ?_)
            refine y_iald0 (p := 2) (N := 4) (X := v1.toInt) (K := v1.toInt.toNat) (q := 43) rfl rfl (by decide) rfl rfl c32 rfl rfl ?_
            refine y_le (q := 49) (q' := 46) rfl rfl rfl rfl rfl (fun c33 => ?_) (fun c34 => ?_)
            · skip
              refine y_bipush (x := (-2)) (q := 48) rfl (by decide) rfl ?_
              exact y_retI rfl (by decide) rfl rfl
            · skip
              refine y_aload_n (q := 50) rfl rfl rfl ?_
              refine y_iload_n (q := 51) rfl rfl rfl ?_
              refine y_iload_n (q := 52) rfl rfl rfl ?_
              refine y_callP (I := .invokevirtual 100) (idx := 100) (KD := 1) (J := 115) (mj := mj105) (as := [.ref 0, .int v1, .int v2]) (r := []) (q := 55) rfl (fun _ _ _ _ _ _ => rfl) rfl (by decide) rfl rfl rfl rfl rfl (Nat.le_of_ble_eq_true rfl) (d_recv atC0 (by decide) (by decide)) rfl (m_X6_setting (Nat.le_trans (by decide) hd) v1 v2 h) (fun r35 => ?_)
              refine y_istore (lo' := [some (.ref 0), some (.int v1), some (.int v2), some (.int v3), some (.int r35)]) (q := 57) rfl (Nat.le_of_ble_eq_true rfl) rfl rfl ?_
              refine y_iload_n (q := 58) rfl rfl rfl ?_
              refine dY_ite (fun c36 => ?_) (fun c37 => ?_)
              · skip
                refine y_tabI (q := 84) 0 rfl c36 (by decide) (by decide) rfl rfl ?_
                refine y_aload_n (q := 85) rfl rfl rfl ?_
                refine y_getR (b := 43) (q := 88) rfl rfl (by decide) atC0 rfl rfl ?_
                refine y_iload_n (q := 89) rfl rfl rfl ?_
                refine y_putI (q := 92) rfl rfl (by decide) (shS zS43) rfl rfl rfl rfl (fun g38 => ?_)
                refine y_goto (q := 129) rfl rfl ?_
                refine y_iload (q := 131) rfl rfl rfl ?_
                exact y_retI rfl (by decide) rfl rfl
              refine dY_ite (fun c39 => ?_) (fun c40 => ?_)
              · skip
                refine y_tabI (q := 95) 1 rfl c39 (by decide) (by decide) rfl rfl ?_
                refine y_aload_n (q := 96) rfl rfl rfl ?_
                refine y_getR (b := 43) (q := 99) rfl rfl (by decide) atC0 rfl rfl ?_
                refine y_iload_n (q := 100) rfl rfl rfl ?_
                refine y_putI (q := 103) rfl rfl (by decide) (shS zS43) rfl rfl rfl rfl (fun g41 => ?_)
                refine y_goto (q := 129) rfl rfl ?_
                refine y_iload (q := 131) rfl rfl rfl ?_
                exact y_retI rfl (by decide) rfl rfl
              refine dY_ite (fun c42 => ?_) (fun c43 => ?_)
              · skip
                refine y_tabI (q := 106) 2 rfl c42 (by decide) (by decide) rfl rfl ?_
                refine y_aload_n (q := 107) rfl rfl rfl ?_
                refine y_getR (b := 43) (q := 110) rfl rfl (by decide) atC0 rfl rfl ?_
                refine y_getR (b := (43 + 2)) (q := 113) rfl rfl (by decide) (shS zS43) rfl rfl ?_
                refine y_iload_n (q := 114) rfl rfl rfl ?_
                refine y_iload_n (q := 115) rfl rfl rfl ?_
                refine y_guard (fun c45 => ?_)
                refine y_iast (n := 8) (N := 8) (X := v2.toInt) (K := v2.toInt.toNat) (q := 116) rfl (shS2 zS43) rfl rfl c45 rfl rfl (fun g44 => ?_)
                refine y_goto (q := 129) rfl rfl ?_
                refine y_iload (q := 131) rfl rfl rfl ?_
                exact y_retI rfl (by decide) rfl rfl
              refine y_tabD (q := 119) rfl (by omega) rfl ?_
              refine y_aload_n (q := 120) rfl rfl rfl ?_
              refine y_getR (b := 43) (q := 123) rfl rfl (by decide) atC0 rfl rfl ?_
              refine y_getR (b := (43 + 3)) (q := 126) rfl rfl (by decide) (shS zS43) rfl rfl ?_
              refine y_iload_n (q := 127) rfl rfl rfl ?_
              refine y_iload_n (q := 128) rfl rfl rfl ?_
              refine y_guard (fun c47 => ?_)
              refine y_iast (n := 8) (N := 8) (X := v2.toInt) (K := v2.toInt.toNat) (q := 129) rfl (shS3 zS43) rfl rfl c47 rfl rfl (fun g46 => ?_)
              refine y_iload (q := 131) rfl rfl rfl ?_
              exact y_retI rfl (by decide) rfl rfl
def f_X6_settle (v1 : Int32) (v2 : Int32) (h : dH) : Option (Int32 × dH) := if v1.toInt < 0 then (some ((-2), h)) else (if v1.toInt < 6 then (if v2.toInt < 0 then (some ((-2), h)) else (if v2.toInt < 10 then (if (h 43 2).toInt < 8 then (oV (f_X3_add 43 v1 v2 h) (fun g11 => some (((g11 43 2) - 1), g11))) else (some ((-4), h))) else (some ((-2), h)))) else (some ((-2), h)))
theorem m_X6_settle {d : Nat} (hd : 2 ≤ d) (v1 : Int32) (v2 : Int32) (h : dH) : dX shC d 106 [.ref 0, .int v1, .int v2] dI (f_X6_settle v1 v2 h) h := by
  obtain ⟨e, rfl⟩ : ∃ e, d = e + 1 := ⟨d - 1, by omega⟩
  have hd : 1 ≤ e := by omega
  refine dX_of (mj := mj106) (lo := [some (.ref 0), some (.int v1), some (.int v2)]) rfl (Nat.le_of_ble_eq_true rfl) rfl ?_
  unfold f_X6_settle
  refine y_iload_n (q := 1) rfl rfl rfl ?_
  refine y_lt0 (q := 20) (q' := 4) rfl rfl rfl rfl (fun c1 => ?_) (fun c2 => ?_)
  · skip
    refine y_bipush (x := (-2)) (q := 22) rfl (by decide) rfl ?_
    exact y_retI rfl (by decide) rfl rfl
  · skip
    refine y_iload_n (q := 5) rfl rfl rfl ?_
    refine y_bipush (x := 6) (q := 7) rfl (by decide) rfl ?_
    refine y_ge (q := 20) (q' := 10) rfl rfl (by decide) rfl rfl (fun c3 => ?_) (fun c4 => ?_)
    · skip
      refine y_iload_n (q := 11) rfl rfl rfl ?_
      refine y_lt0 (q := 20) (q' := 14) rfl rfl rfl rfl (fun c5 => ?_) (fun c6 => ?_)
      · skip
        refine y_bipush (x := (-2)) (q := 22) rfl (by decide) rfl ?_
        exact y_retI rfl (by decide) rfl rfl
      · skip
        refine y_iload_n (q := 15) rfl rfl rfl ?_
        refine y_bipush (x := 10) (q := 17) rfl (by decide) rfl ?_
        refine y_lt (q := 23) (q' := 20) rfl rfl (by decide) rfl rfl (fun c7 => ?_) (fun c8 => ?_)
        · skip
          refine y_aload_n (q := 24) rfl rfl rfl ?_
          refine y_getR (b := 43) (q := 27) rfl rfl (by decide) atC0 rfl rfl ?_
          refine y_getI (q := 30) rfl rfl (by decide) (shS zS43) rfl rfl ?_
          refine y_bipush (x := 8) (q := 32) rfl (by decide) rfl ?_
          refine y_lt (q := 38) (q' := 35) rfl rfl (by decide) rfl rfl (fun c9 => ?_) (fun c10 => ?_)
          · skip
            refine y_aload_n (q := 39) rfl rfl rfl ?_
            refine y_getR (b := 43) (q := 42) rfl rfl (by decide) atC0 rfl rfl ?_
            refine y_iload_n (q := 43) rfl rfl rfl ?_
            refine y_iload_n (q := 44) rfl rfl rfl ?_
            refine y_callV (I := .invokevirtual 283) (idx := 283) (KD := 1) (J := 39) (mj := mj29) (as := [.ref 43, .int v1, .int v2]) (r := []) (q := 47) rfl (fun _ _ _ _ _ _ => rfl) rfl (by decide) rfl rfl rfl rfl rfl (Nat.le_of_ble_eq_true rfl) (d_recv (shS zS43) (by decide) (by decide)) rfl (m_X3_add (Nat.le_trans (by decide) hd) 43 zS43 v1 v2 h) (fun g11 => ?_)
            refine y_aload_n (q := 48) rfl rfl rfl ?_
            refine y_getR (b := 43) (q := 51) rfl rfl (by decide) atC0 rfl rfl ?_
            refine y_getI (q := 54) rfl rfl (by decide) (shS zS43) rfl rfl ?_
            refine y_iconst (x := 1) (q := 55) rfl (by decide) rfl ?_
            refine y_isub (q := 56) rfl rfl ?_
            exact y_retI rfl (by decide) rfl rfl
          · skip
            refine y_bipush (x := (-4)) (q := 37) rfl (by decide) rfl ?_
            exact y_retI rfl (by decide) rfl rfl
        · skip
          refine y_bipush (x := (-2)) (q := 22) rfl (by decide) rfl ?_
          exact y_retI rfl (by decide) rfl rfl
    · skip
      refine y_bipush (x := (-2)) (q := 22) rfl (by decide) rfl ?_
      exact y_retI rfl (by decide) rfl rfl
def f_X6_house (v1 : Int32) (v2 : Int32) (h : dH) : Option (Int32 × dH) := oI (f_X6_settle v1 v2 h) (fun r1 g2 => some (r1, g2))
theorem m_X6_house {d : Nat} (hd : 3 ≤ d) (v1 : Int32) (v2 : Int32) (h : dH) : dX shC d 67 [.ref 0, .int v1, .int v2] dI (f_X6_house v1 v2 h) h := by
  obtain ⟨e, rfl⟩ : ∃ e, d = e + 1 := ⟨d - 1, by omega⟩
  have hd : 2 ≤ e := by omega
  refine dX_of (mj := mj67) (lo := [some (.ref 0), some (.int v1), some (.int v2)]) rfl (Nat.le_of_ble_eq_true rfl) rfl ?_
  unfold f_X6_house
  refine y_aload_n (q := 1) rfl rfl rfl ?_
  refine y_iload_n (q := 2) rfl rfl rfl ?_
  refine y_iload_n (q := 3) rfl rfl rfl ?_
  refine y_callI (I := .invokevirtual 116) (idx := 116) (KD := 1) (J := 116) (mj := mj106) (as := [.ref 0, .int v1, .int v2]) (r := []) (q := 6) rfl (fun _ _ _ _ _ _ => rfl) rfl (by decide) rfl rfl rfl rfl rfl (Nat.le_of_ble_eq_true rfl) (d_recv atC0 (by decide) (by decide)) rfl (m_X6_settle (Nat.le_trans (by decide) hd) v1 v2 h) (fun r1 g2 => ?_)
  exact y_retI rfl (by decide) rfl rfl
def f_X6_isTwo (v1 : Int32) (v2 : Int32) (h : dH) : Option (Int32) := oP (f_X6_isHouse v1 h) (fun r1 => if r1.toInt = 0 then ((some 0)) else (oP (f_X6_isHouse v2 h) (fun r4 => if r4.toInt = 0 then ((some 0)) else (if v1.toInt = v2.toInt then ((some 0)) else ((some 1))))))
theorem m_X6_isTwo {d : Nat} (hd : 2 ≤ d) (v1 : Int32) (v2 : Int32) (h : dH) : dX shC d 98 [.ref 0, .int v1, .int v2] (dP h) (f_X6_isTwo v1 v2 h) h := by
  obtain ⟨e, rfl⟩ : ∃ e, d = e + 1 := ⟨d - 1, by omega⟩
  have hd : 1 ≤ e := by omega
  refine dX_of (mj := mj98) (lo := [some (.ref 0), some (.int v1), some (.int v2)]) rfl (Nat.le_of_ble_eq_true rfl) rfl ?_
  unfold f_X6_isTwo
  refine y_aload_n (q := 1) rfl rfl rfl ?_
  refine y_iload_n (q := 2) rfl rfl rfl ?_
  refine y_callP (I := .invokevirtual 90) (idx := 90) (KD := 1) (J := 107) (mj := mj97) (as := [.ref 0, .int v1]) (r := []) (q := 5) rfl (fun _ _ _ _ _ _ => rfl) rfl (by decide) rfl rfl rfl rfl rfl (Nat.le_of_ble_eq_true rfl) (d_recv atC0 (by decide) (by decide)) rfl (m_X6_isHouse (Nat.le_trans (by decide) hd) v1 h) (fun r1 => ?_)
  refine y_eq0 (q := 25) (q' := 8) rfl rfl rfl rfl (fun c2 => ?_) (fun c3 => ?_)
  · skip
    refine y_iconst (x := 0) (q := 26) rfl (by decide) rfl ?_
    exact y_retP rfl (by decide) rfl rfl
  · skip
    refine y_aload_n (q := 9) rfl rfl rfl ?_
    refine y_iload_n (q := 10) rfl rfl rfl ?_
    refine y_callP (I := .invokevirtual 90) (idx := 90) (KD := 1) (J := 107) (mj := mj97) (as := [.ref 0, .int v2]) (r := []) (q := 13) rfl (fun _ _ _ _ _ _ => rfl) rfl (by decide) rfl rfl rfl rfl rfl (Nat.le_of_ble_eq_true rfl) (d_recv atC0 (by decide) (by decide)) rfl (m_X6_isHouse (Nat.le_trans (by decide) hd) v2 h) (fun r4 => ?_)
    refine y_eq0 (q := 25) (q' := 16) rfl rfl rfl rfl (fun c5 => ?_) (fun c6 => ?_)
    · skip
      refine y_iconst (x := 0) (q := 26) rfl (by decide) rfl ?_
      exact y_retP rfl (by decide) rfl rfl
    · skip
      refine y_iload_n (q := 17) rfl rfl rfl ?_
      refine y_iload_n (q := 18) rfl rfl rfl ?_
      refine y_eq (q := 25) (q' := 21) rfl rfl rfl rfl rfl (fun c7 => ?_) (fun c8 => ?_)
      · skip
        refine y_iconst (x := 0) (q := 26) rfl (by decide) rfl ?_
        exact y_retP rfl (by decide) rfl rfl
      · skip
        refine y_iconst (x := 1) (q := 22) rfl (by decide) rfl ?_
        refine y_goto (q := 26) rfl rfl ?_
        exact y_retP rfl (by decide) rfl rfl
def f_X6_bind (v1 : Int32) (v2 : Int32) (v3 : Int32) (h : dH) : Option (Int32 × dH) := oP (f_X6_isTwo v1 v2 h) (fun r1 => if r1.toInt = 0 then (some ((-2), h)) else (if v3.toInt < 0 then (some ((-2), h)) else (if 99 < v3.toInt then (some ((-2), h)) else (if 0 ≤ v1.toInt ∧ v1.toInt < 8 then (if 0 ≤ v2.toInt ∧ v2.toInt < 8 then (oV (f_X3_tie 43 v1 v2 v3 h) (fun g10 => some ((h (43 + 5 + v1.toInt.toNat) (v2.toInt.toNat)), g10))) else none) else none))))
theorem m_X6_bind {d : Nat} (hd : 3 ≤ d) (v1 : Int32) (v2 : Int32) (v3 : Int32) (h : dH) : dX shC d 68 [.ref 0, .int v1, .int v2, .int v3] dI (f_X6_bind v1 v2 v3 h) h := by
  obtain ⟨e, rfl⟩ : ∃ e, d = e + 1 := ⟨d - 1, by omega⟩
  have hd : 2 ≤ e := by omega
  refine dX_of (mj := mj68) (lo := [some (.ref 0), some (.int v1), some (.int v2), some (.int v3), none]) rfl (Nat.le_of_ble_eq_true rfl) rfl ?_
  unfold f_X6_bind
  refine y_aload_n (q := 1) rfl rfl rfl ?_
  refine y_iload_n (q := 2) rfl rfl rfl ?_
  refine y_iload_n (q := 3) rfl rfl rfl ?_
  refine y_callP (I := .invokevirtual 119) (idx := 119) (KD := 1) (J := 108) (mj := mj98) (as := [.ref 0, .int v1, .int v2]) (r := []) (q := 6) rfl (fun _ _ _ _ _ _ => rfl) rfl (by decide) rfl rfl rfl rfl rfl (Nat.le_of_ble_eq_true rfl) (d_recv atC0 (by decide) (by decide)) rfl (m_X6_isTwo (Nat.le_trans (by decide) hd) v1 v2 h) (fun r1 => ?_)
  refine y_eq0 (q := 19) (q' := 9) rfl rfl rfl rfl (fun c2 => ?_) (fun c3 => ?_)
  · skip
    refine y_bipush (x := (-2)) (q := 21) rfl (by decide) rfl ?_
    exact y_retI rfl (by decide) rfl rfl
  · skip
    refine y_iload_n (q := 10) rfl rfl rfl ?_
    refine y_lt0 (q := 19) (q' := 13) rfl rfl rfl rfl (fun c4 => ?_) (fun c5 => ?_)
    · skip
      refine y_bipush (x := (-2)) (q := 21) rfl (by decide) rfl ?_
      exact y_retI rfl (by decide) rfl rfl
    · skip
      refine y_iload_n (q := 14) rfl rfl rfl ?_
      refine y_bipush (x := 99) (q := 16) rfl (by decide) rfl ?_
      refine y_le (q := 22) (q' := 19) rfl rfl (by decide) rfl rfl (fun c6 => ?_) (fun c7 => ?_)
      · skip
        refine y_bipush (x := (-2)) (q := 21) rfl (by decide) rfl ?_
        exact y_retI rfl (by decide) rfl rfl
      · skip
        refine y_aload_n (q := 23) rfl rfl rfl ?_
        refine y_getR (b := 43) (q := 26) rfl rfl (by decide) atC0 rfl rfl ?_
        refine y_getR (b := (43 + 4)) (q := 29) rfl rfl (by decide) (shS zS43) rfl rfl ?_
        refine y_iload_n (q := 30) rfl rfl rfl ?_
        refine y_guard (fun c8 => ?_)
        refine y_aald (b := (43 + 5 + v1.toInt.toNat)) (K := v1.toInt.toNat) (X := v1.toInt) (q := 31) hbC rfl (shS4 zS43) (by decide) rfl c8.1 rfl (shS4k _ (by omega : v1.toInt.toNat < 8)) rfl ?_
        refine y_iload_n (q := 32) rfl rfl rfl ?_
        refine y_guard (fun c9 => ?_)
        refine y_iald (n := 8) (N := 8) (X := v2.toInt) (K := v2.toInt.toNat) (q := 33) hbC rfl (shSr zS43 (by omega : v1.toInt.toNat < 8)) rfl rfl c9 rfl rfl ?_
        refine y_istore (lo' := [some (.ref 0), some (.int v1), some (.int v2), some (.int v3), some (.int (h (43 + 5 + v1.toInt.toNat) (v2.toInt.toNat)))]) (q := 35) rfl (Nat.le_of_ble_eq_true rfl) rfl rfl ?_
        refine y_aload_n (q := 36) rfl rfl rfl ?_
        refine y_getR (b := 43) (q := 39) rfl rfl (by decide) atC0 rfl rfl ?_
        refine y_iload_n (q := 40) rfl rfl rfl ?_
        refine y_iload_n (q := 41) rfl rfl rfl ?_
        refine y_iload_n (q := 42) rfl rfl rfl ?_
        refine y_callV (I := .invokevirtual 127) (idx := 127) (KD := 1) (J := 40) (mj := mj30) (as := [.ref 43, .int v1, .int v2, .int v3]) (r := []) (q := 45) rfl (fun _ _ _ _ _ _ => rfl) rfl (by decide) rfl rfl rfl rfl rfl (Nat.le_of_ble_eq_true rfl) (d_recv (shS zS43) (by decide) (by decide)) rfl (m_X3_tie (Nat.le_trans (by decide) hd) 43 zS43 v1 v2 v3 h) (fun g10 => ?_)
        refine y_iload (q := 47) rfl rfl rfl ?_
        exact y_retI rfl (by decide) rfl rfl
def f_X6_told (v1 : Int32) (v2 : Int32) (h : dH) : Option (Int32 × dH) := if v2.toInt = 0 then (oP (f_X6_setting v2 v1 h) (fun r3 => some (r3, h))) else (if v2.toInt = 1 then (oP (f_X6_setting v2 v1 h) (fun r6 => some (r6, h))) else (oP (f_X6_isHouse v1 h) (fun r7 => if r7.toInt = 0 then (some ((-2), h)) else (if v2.toInt = 2 then (oP (f_X6_setting v2 v1 h) (fun r12 => some (r12, h))) else (if v2.toInt = 3 then (oP (f_X6_setting v2 v1 h) (fun r15 => some (r15, h))) else (if v2.toInt = 4 then (if 0 ≤ v1.toInt ∧ v1.toInt < 8 then (some ((h (43 + 1) (v1.toInt.toNat)), h)) else none) else (if v2.toInt = 5 then (oP (f_X3_acquaintances 43 v1 h) (fun r21 => some (r21, h))) else (if v2.toInt = 6 then (if 0 ≤ v1.toInt ∧ v1.toInt < 8 then (oP (f_X3_seatsAt 43 (h (43 + 3) (v1.toInt.toNat)) h) (fun r25 => some (r25, h))) else none) else (if v2.toInt = 7 then (oI (f_X3_sounds 43 v1 h) (fun r28 g29 => some (r28, g29))) else (oP (f_X6_isHouse (v2 - 10) h) (fun r30 => if r30.toInt = 0 then (some ((-2), h)) else (if 0 ≤ v1.toInt ∧ v1.toInt < 8 then (if 0 ≤ (v2 - 10).toInt ∧ (v2 - 10).toInt < 8 then (some ((h (43 + 5 + v1.toInt.toNat) ((v2 - 10).toInt.toNat)), h)) else none) else none))))))))))))
theorem m_X6_told {d : Nat} (hd : 4 ≤ d) (v1 : Int32) (v2 : Int32) (h : dH) : dX shC d 69 [.ref 0, .int v1, .int v2] dI (f_X6_told v1 v2 h) h := by
  obtain ⟨e, rfl⟩ : ∃ e, d = e + 1 := ⟨d - 1, by omega⟩
  have hd : 3 ≤ e := by omega
  refine dX_of (mj := mj69) (lo := [some (.ref 0), some (.int v1), some (.int v2), none]) rfl (Nat.le_of_ble_eq_true rfl) rfl ?_
  unfold f_X6_told
  refine y_iload_n (q := 1) rfl rfl rfl ?_
  refine y_eq0 (q := 9) (q' := 4) rfl rfl rfl rfl (fun c1 => ?_) (fun c2 => ?_)
  · skip
    refine y_aload_n (q := 10) rfl rfl rfl ?_
    refine y_iload_n (q := 11) rfl rfl rfl ?_
    refine y_iload_n (q := 12) rfl rfl rfl ?_
    refine y_callP (I := .invokevirtual 100) (idx := 100) (KD := 1) (J := 115) (mj := mj105) (as := [.ref 0, .int v2, .int v1]) (r := []) (q := 15) rfl (fun _ _ _ _ _ _ => rfl) rfl (by decide) rfl rfl rfl rfl rfl (Nat.le_of_ble_eq_true rfl) (d_recv atC0 (by decide) (by decide)) rfl (m_X6_setting (Nat.le_trans (by decide) hd) v2 v1 h) (fun r3 => ?_)
    exact y_retI rfl (by decide) rfl rfl
  · skip
    refine y_iload_n (q := 5) rfl rfl rfl ?_
    refine y_iconst (x := 1) (q := 6) rfl (by decide) rfl ?_
    refine y_ne (q := 16) (q' := 9) rfl rfl (by decide) rfl rfl (fun c4 => ?_) (fun c5 => ?_)
    · skip
      refine y_aload_n (q := 10) rfl rfl rfl ?_
      refine y_iload_n (q := 11) rfl rfl rfl ?_
      refine y_iload_n (q := 12) rfl rfl rfl ?_
      refine y_callP (I := .invokevirtual 100) (idx := 100) (KD := 1) (J := 115) (mj := mj105) (as := [.ref 0, .int v2, .int v1]) (r := []) (q := 15) rfl (fun _ _ _ _ _ _ => rfl) rfl (by decide) rfl rfl rfl rfl rfl (Nat.le_of_ble_eq_true rfl) (d_recv atC0 (by decide) (by decide)) rfl (m_X6_setting (Nat.le_trans (by decide) hd) v2 v1 h) (fun r6 => ?_)
      exact y_retI rfl (by decide) rfl rfl
    · skip
      refine y_aload_n (q := 17) rfl rfl rfl ?_
      refine y_iload_n (q := 18) rfl rfl rfl ?_
      refine y_callP (I := .invokevirtual 90) (idx := 90) (KD := 1) (J := 107) (mj := mj97) (as := [.ref 0, .int v1]) (r := []) (q := 21) rfl (fun _ _ _ _ _ _ => rfl) rfl (by decide) rfl rfl rfl rfl rfl (Nat.le_of_ble_eq_true rfl) (d_recv atC0 (by decide) (by decide)) rfl (m_X6_isHouse (Nat.le_trans (by decide) hd) v1 h) (fun r7 => ?_)
      refine y_ne0 (q := 27) (q' := 24) rfl rfl rfl rfl (fun c8 => ?_) (fun c9 => ?_)
      · skip
        refine y_bipush (x := (-2)) (q := 26) rfl (by decide) rfl ?_
        exact y_retI rfl (by decide) rfl rfl
      · skip
        refine y_iload_n (q := 28) rfl rfl rfl ?_
        refine dY_ite (fun c10 => ?_) (fun c11 => ?_)
        · skip
          refine y_tabI (q := 68) 2 rfl c10 (by decide) (by decide) rfl rfl ?_
          refine y_aload_n (q := 69) rfl rfl rfl ?_
          refine y_iload_n (q := 70) rfl rfl rfl ?_
          refine y_iload_n (q := 71) rfl rfl rfl ?_
          refine y_callP (I := .invokevirtual 100) (idx := 100) (KD := 1) (J := 115) (mj := mj105) (as := [.ref 0, .int v2, .int v1]) (r := []) (q := 74) rfl (fun _ _ _ _ _ _ => rfl) rfl (by decide) rfl rfl rfl rfl rfl (Nat.le_of_ble_eq_true rfl) (d_recv atC0 (by decide) (by decide)) rfl (m_X6_setting (Nat.le_trans (by decide) hd) v2 v1 h) (fun r12 => ?_)
          exact y_retI rfl (by decide) rfl rfl
        refine dY_ite (fun c13 => ?_) (fun c14 => ?_)
        · skip
          refine y_tabI (q := 68) 3 rfl c13 (by decide) (by decide) rfl rfl ?_
          refine y_aload_n (q := 69) rfl rfl rfl ?_
          refine y_iload_n (q := 70) rfl rfl rfl ?_
          refine y_iload_n (q := 71) rfl rfl rfl ?_
          refine y_callP (I := .invokevirtual 100) (idx := 100) (KD := 1) (J := 115) (mj := mj105) (as := [.ref 0, .int v2, .int v1]) (r := []) (q := 74) rfl (fun _ _ _ _ _ _ => rfl) rfl (by decide) rfl rfl rfl rfl rfl (Nat.le_of_ble_eq_true rfl) (d_recv atC0 (by decide) (by decide)) rfl (m_X6_setting (Nat.le_trans (by decide) hd) v2 v1 h) (fun r15 => ?_)
          exact y_retI rfl (by decide) rfl rfl
        refine dY_ite (fun c16 => ?_) (fun c17 => ?_)
        · skip
          refine y_tabI (q := 75) 4 rfl c16 (by decide) (by decide) rfl rfl ?_
          refine y_aload_n (q := 76) rfl rfl rfl ?_
          refine y_getR (b := 43) (q := 79) rfl rfl (by decide) atC0 rfl rfl ?_
          refine y_getR (b := (43 + 1)) (q := 82) rfl rfl (by decide) (shS zS43) rfl rfl ?_
          refine y_iload_n (q := 83) rfl rfl rfl ?_
          refine y_guard (fun c18 => ?_)
          refine y_iald (n := 8) (N := 8) (X := v1.toInt) (K := v1.toInt.toNat) (q := 84) hbC rfl (shS1 zS43) rfl rfl c18 rfl rfl ?_
          exact y_retI rfl (by decide) rfl rfl
        refine dY_ite (fun c19 => ?_) (fun c20 => ?_)
        · skip
          refine y_tabI (q := 85) 5 rfl c19 (by decide) (by decide) rfl rfl ?_
          refine y_aload_n (q := 86) rfl rfl rfl ?_
          refine y_getR (b := 43) (q := 89) rfl rfl (by decide) atC0 rfl rfl ?_
          refine y_iload_n (q := 90) rfl rfl rfl ?_
          refine y_callP (I := .invokevirtual 134) (idx := 134) (KD := 1) (J := 42) (mj := mj32) (as := [.ref 43, .int v1]) (r := []) (q := 93) rfl (fun _ _ _ _ _ _ => rfl) rfl (by decide) rfl rfl rfl rfl rfl (Nat.le_of_ble_eq_true rfl) (d_recv (shS zS43) (by decide) (by decide)) rfl (m_X3_acquaintances (Nat.le_trans (by decide) hd) 43 zS43 v1 h) (fun r21 => ?_)
          exact y_retI rfl (by decide) rfl rfl
        refine dY_ite (fun c22 => ?_) (fun c23 => ?_)
        · skip
          refine y_tabI (q := 94) 6 rfl c22 (by decide) (by decide) rfl rfl ?_
          refine y_aload_n (q := 95) rfl rfl rfl ?_
          refine y_getR (b := 43) (q := 98) rfl rfl (by decide) atC0 rfl rfl ?_
          refine y_aload_n (q := 99) rfl rfl rfl ?_
          refine y_getR (b := 43) (q := 102) rfl rfl (by decide) atC0 rfl rfl ?_
          refine y_getR (b := (43 + 3)) (q := 105) rfl rfl (by decide) (shS zS43) rfl rfl ?_
          refine y_iload_n (q := 106) rfl rfl rfl ?_
          refine y_guard (fun c24 => ?_)
          refine y_iald (n := 8) (N := 8) (X := v1.toInt) (K := v1.toInt.toNat) (q := 107) hbC rfl (shS3 zS43) rfl rfl c24 rfl rfl ?_
          refine y_callP (I := .invokevirtual 138) (idx := 138) (KD := 1) (J := 45) (mj := mj35) (as := [.ref 43, .int (h (43 + 3) (v1.toInt.toNat))]) (r := []) (q := 110) rfl (fun _ _ _ _ _ _ => rfl) rfl (by decide) rfl rfl rfl rfl rfl (Nat.le_of_ble_eq_true rfl) (d_recv (shS zS43) (by decide) (by decide)) rfl (m_X3_seatsAt (Nat.le_trans (by decide) hd) 43 zS43 (h (43 + 3) (v1.toInt.toNat)) h) (fun r25 => ?_)
          exact y_retI rfl (by decide) rfl rfl
        refine dY_ite (fun c26 => ?_) (fun c27 => ?_)
        · skip
          refine y_tabI (q := 111) 7 rfl c26 (by decide) (by decide) rfl rfl ?_
          refine y_aload_n (q := 112) rfl rfl rfl ?_
          refine y_getR (b := 43) (q := 115) rfl rfl (by decide) atC0 rfl rfl ?_
          refine y_iload_n (q := 116) rfl rfl rfl ?_
          refine y_callI (I := .invokevirtual 141) (idx := 141) (KD := 1) (J := 49) (mj := mj39) (as := [.ref 43, .int v1]) (r := []) (q := 119) rfl (fun _ _ _ _ _ _ => rfl) rfl (by decide) rfl rfl rfl rfl rfl (Nat.le_of_ble_eq_true rfl) (d_recv (shS zS43) (by decide) (by decide)) rfl (m_X3_sounds (Nat.le_trans (by decide) hd) 43 zS43 v1 h) (fun r28 g29 => ?_)
          exact y_retI rfl (by decide) rfl rfl
        refine y_tabD (q := 120) rfl (by omega) rfl ?_
        refine y_iload_n (q := 121) rfl rfl rfl ?_
        refine y_bipush (x := 10) (q := 123) rfl (by decide) rfl ?_
        refine y_isub (q := 124) rfl rfl ?_
        refine y_istore_n (lo' := [some (.ref 0), some (.int v1), some (.int v2), some (.int (v2 - 10))]) (q := 125) rfl (Nat.le_of_ble_eq_true rfl) rfl rfl ?_
        refine y_aload_n (q := 126) rfl rfl rfl ?_
        refine y_iload_n (q := 127) rfl rfl rfl ?_
        refine y_callP (I := .invokevirtual 90) (idx := 90) (KD := 1) (J := 107) (mj := mj97) (as := [.ref 0, .int (v2 - 10)]) (r := []) (q := 130) rfl (fun _ _ _ _ _ _ => rfl) rfl (by decide) rfl rfl rfl rfl rfl (Nat.le_of_ble_eq_true rfl) (d_recv atC0 (by decide) (by decide)) rfl (m_X6_isHouse (Nat.le_trans (by decide) hd) (v2 - 10) h) (fun r30 => ?_)
        refine y_eq0 (q := 147) (q' := 133) rfl rfl rfl rfl (fun c31 => ?_) (fun c32 => ?_)
        · skip
          refine y_bipush (x := (-2)) (q := 149) rfl (by decide) rfl ?_
          exact y_retI rfl (by decide) rfl rfl
        · skip
          refine y_aload_n (q := 134) rfl rfl rfl ?_
          refine y_getR (b := 43) (q := 137) rfl rfl (by decide) atC0 rfl rfl ?_
          refine y_getR (b := (43 + 4)) (q := 140) rfl rfl (by decide) (shS zS43) rfl rfl ?_
          refine y_iload_n (q := 141) rfl rfl rfl ?_
          refine y_guard (fun c33 => ?_)
          refine y_aald (b := (43 + 5 + v1.toInt.toNat)) (K := v1.toInt.toNat) (X := v1.toInt) (q := 142) hbC rfl (shS4 zS43) (by decide) rfl c33.1 rfl (shS4k _ (by omega : v1.toInt.toNat < 8)) rfl ?_
          refine y_iload_n (q := 143) rfl rfl rfl ?_
          refine y_guard (fun c34 => ?_)
          refine y_iald (n := 8) (N := 8) (X := (v2 - 10).toInt) (K := (v2 - 10).toInt.toNat) (q := 144) hbC rfl (shSr zS43 (by omega : v1.toInt.toNat < 8)) rfl rfl c34 rfl rfl ?_
          refine y_goto (q := 149) rfl rfl ?_
          exact y_retI rfl (by decide) rfl rfl
def f_X6_feed (v1 : Int32) (h : dH) : Option (Int32 × dH) := if v1.toInt < 0 then (some ((-2), h)) else (if 255 < v1.toInt then (some ((-2), h)) else (oI (f_X4_put v1 h) (fun r5 g6 => if r5.toInt = 0 then (some ((-4), g6)) else (some ((g6 1 0), g6)))))
theorem m_X6_feed {d : Nat} (hd : 2 ≤ d) (v1 : Int32) (h : dH) : dX shC d 70 [.ref 0, .int v1] dI (f_X6_feed v1 h) h := by
  obtain ⟨e, rfl⟩ : ∃ e, d = e + 1 := ⟨d - 1, by omega⟩
  have hd : 1 ≤ e := by omega
  refine dX_of (mj := mj70) (lo := [some (.ref 0), some (.int v1)]) rfl (Nat.le_of_ble_eq_true rfl) rfl ?_
  unfold f_X6_feed
  refine y_iload_n (q := 1) rfl rfl rfl ?_
  refine y_lt0 (q := 11) (q' := 4) rfl rfl rfl rfl (fun c1 => ?_) (fun c2 => ?_)
  · skip
    refine y_bipush (x := (-2)) (q := 13) rfl (by decide) rfl ?_
    exact y_retI rfl (by decide) rfl rfl
  · skip
    refine y_iload_n (q := 5) rfl rfl rfl ?_
    refine y_sipush (x := 255) (q := 8) rfl (by decide) rfl ?_
    refine y_le (q := 14) (q' := 11) rfl rfl (by decide) rfl rfl (fun c3 => ?_) (fun c4 => ?_)
    · skip
      refine y_bipush (x := (-2)) (q := 13) rfl (by decide) rfl ?_
      exact y_retI rfl (by decide) rfl rfl
    · skip
      refine y_aload_n (q := 15) rfl rfl rfl ?_
      refine y_getR (b := 1) (q := 18) rfl rfl (by decide) atC0 rfl rfl ?_
      refine y_iload_n (q := 19) rfl rfl rfl ?_
      refine y_callI (I := .invokevirtual 51) (idx := 51) (KD := 1) (J := 57) (mj := mj47) (as := [.ref 1, .int v1]) (r := []) (q := 22) rfl (fun _ _ _ _ _ _ => rfl) rfl (by decide) rfl rfl rfl rfl rfl (Nat.le_of_ble_eq_true rfl) (d_recv atC1 (by decide) (by decide)) rfl (m_X4_put (Nat.le_trans (by decide) hd) v1 h) (fun r5 g6 => ?_)
      refine y_eq0 (q := 35) (q' := 25) rfl rfl rfl rfl (fun c7 => ?_) (fun c8 => ?_)
      · skip
        refine y_bipush (x := (-4)) (q := 37) rfl (by decide) rfl ?_
        exact y_retI rfl (by decide) rfl rfl
      · skip
        refine y_aload_n (q := 26) rfl rfl rfl ?_
        refine y_getR (b := 1) (q := 29) rfl rfl (by decide) atC0 rfl rfl ?_
        refine y_getI (q := 32) rfl rfl (by decide) atC1 rfl rfl ?_
        refine y_goto (q := 37) rfl rfl ?_
        exact y_retI rfl (by decide) rfl rfl
def f_X6_text  (h : dH) : Option (Int32 × dH) := if (h 0 3).toInt < 6 then (if 0 ≤ (h 0 3).toInt ∧ (h 0 3).toInt < 6 then (oI (f_X1_readInto (10 + 4 * (h 0 3).toInt.toNat) h) (fun r4 g5 => oV (f_X4_empty  g5) (fun g6 => if r4.toInt = (-1) then (oH (dU g6 0 3 ((g6 0 3) + 1)) (fun g9 => some (((g9 0 3) - 1), g9))) else (some (((-100) - r4), g6))))) else none) else (some ((-4), h))
theorem m_X6_text {d : Nat} (hd : 1002 ≤ d)  (h : dH) : dX shC d 71 [.ref 0] dI (f_X6_text  h) h := by
  obtain ⟨e, rfl⟩ : ∃ e, d = e + 1 := ⟨d - 1, by omega⟩
  have hd : 1001 ≤ e := by omega
  refine dX_of (mj := mj71) (lo := [some (.ref 0), none]) rfl (Nat.le_of_ble_eq_true rfl) rfl ?_
  unfold f_X6_text
  refine y_aload_n (q := 1) rfl rfl rfl ?_
  refine y_getI (q := 4) rfl rfl (by decide) atC0 rfl rfl ?_
  refine y_bipush (x := 6) (q := 6) rfl (by decide) rfl ?_
  refine y_lt (q := 12) (q' := 9) rfl rfl (by decide) rfl rfl (fun c1 => ?_) (fun c2 => ?_)
  · skip
    refine y_aload_n (q := 13) rfl rfl rfl ?_
    refine y_getR (b := 42) (q := 16) rfl rfl (by decide) atC0 rfl rfl ?_
    refine y_aload_n (q := 17) rfl rfl rfl ?_
    refine y_getR (b := 6) (q := 20) rfl rfl (by decide) atC0 rfl rfl ?_
    refine y_aload_n (q := 21) rfl rfl rfl ?_
    refine y_getI (q := 24) rfl rfl (by decide) atC0 rfl rfl ?_
    refine y_guard (fun c3 => ?_)
    refine y_aald (b := (10 + 4 * (h 0 3).toInt.toNat)) (K := (h 0 3).toInt.toNat) (X := (h 0 3).toInt) (q := 25) hbC rfl atC6 (by decide) rfl c3.1 rfl (at6k (by omega : (h 0 3).toInt.toNat < 6)) rfl ?_
    refine y_callI (I := .invokevirtual 64) (idx := 64) (KD := 1) (J := 21) (mj := mj11) (as := [.ref 42, .ref (10 + 4 * (h 0 3).toInt.toNat)]) (r := []) (q := 28) rfl (fun _ _ _ _ _ _ => rfl) rfl (by decide) rfl rfl rfl rfl rfl (Nat.le_of_ble_eq_true rfl) (d_recv atC42 (by decide) (by decide)) rfl (m_X1_readInto (Nat.le_trans (by decide) hd) (10 + 4 * (h 0 3).toInt.toNat) (zT6 (by omega : (h 0 3).toInt.toNat < 6)) h) (fun r4 g5 => ?_)
    refine y_istore_n (lo' := [some (.ref 0), some (.int r4)]) (q := 29) rfl (Nat.le_of_ble_eq_true rfl) rfl rfl ?_
    refine y_aload_n (q := 30) rfl rfl rfl ?_
    refine y_getR (b := 1) (q := 33) rfl rfl (by decide) atC0 rfl rfl ?_
    refine y_callV (I := .invokevirtual 68) (idx := 68) (KD := 1) (J := 58) (mj := mj48) (as := [.ref 1]) (r := []) (q := 36) rfl (fun _ _ _ _ _ _ => rfl) rfl (by decide) rfl rfl rfl rfl rfl (Nat.le_of_ble_eq_true rfl) (d_recv atC1 (by decide) (by decide)) rfl (m_X4_empty (Nat.le_trans (by decide) hd)  g5) (fun g6 => ?_)
    refine y_iload_n (q := 37) rfl rfl rfl ?_
    refine y_iconst (x := (-1)) (q := 38) rfl (by decide) rfl ?_
    refine y_eq (q := 46) (q' := 41) rfl rfl (by decide) rfl rfl (fun c7 => ?_) (fun c8 => ?_)
    · skip
      refine y_aload_n (q := 47) rfl rfl rfl ?_
      refine y_dup (q := 48) rfl rfl ?_
      refine y_getI (q := 51) rfl rfl (by decide) atC0 rfl rfl ?_
      refine y_iconst (x := 1) (q := 52) rfl (by decide) rfl ?_
      refine y_iadd (q := 53) rfl rfl ?_
      refine y_putI (q := 56) rfl rfl (by decide) atC0 rfl rfl rfl rfl (fun g9 => ?_)
      refine y_aload_n (q := 57) rfl rfl rfl ?_
      refine y_getI (q := 60) rfl rfl (by decide) atC0 rfl rfl ?_
      refine y_iconst (x := 1) (q := 61) rfl (by decide) rfl ?_
      refine y_isub (q := 62) rfl rfl ?_
      exact y_retI rfl (by decide) rfl rfl
    · skip
      refine y_bipush (x := (-100)) (q := 43) rfl (by decide) rfl ?_
      refine y_iload_n (q := 44) rfl rfl rfl ?_
      refine y_isub (q := 45) rfl rfl ?_
      exact y_retI rfl (by decide) rfl rfl
  · skip
    refine y_bipush (x := (-4)) (q := 11) rfl (by decide) rfl ?_
    exact y_retI rfl (by decide) rfl rfl
def f_X6_force (v1 : Int32) (h : dH) : Option (Int32 × dH) := if v1.toInt < 0 then (some ((-2), h)) else (if v1.toInt < (h 0 3).toInt then (if 0 ≤ v1.toInt ∧ v1.toInt < 6 then (oH (dU h 43 3 (dti (10 + 4 * v1.toInt.toNat))) (fun g6 => some ((dti (dtx (h 43 3))), g6))) else none) else (some ((-2), h)))
theorem m_X6_force {d : Nat} (hd : 1 ≤ d) (v1 : Int32) (h : dH) : dX shC d 72 [.ref 0, .int v1] dI (f_X6_force v1 h) h := by
  obtain ⟨e, rfl⟩ : ∃ e, d = e + 1 := ⟨d - 1, by omega⟩
  have hd : 0 ≤ e := by omega
  refine dX_of (mj := mj72) (lo := [some (.ref 0), some (.int v1), none]) rfl (Nat.le_of_ble_eq_true rfl) rfl ?_
  unfold f_X6_force
  refine y_iload_n (q := 1) rfl rfl rfl ?_
  refine y_lt0 (q := 12) (q' := 4) rfl rfl rfl rfl (fun c1 => ?_) (fun c2 => ?_)
  · skip
    refine y_bipush (x := (-2)) (q := 14) rfl (by decide) rfl ?_
    exact y_retI rfl (by decide) rfl rfl
  · skip
    refine y_iload_n (q := 5) rfl rfl rfl ?_
    refine y_aload_n (q := 6) rfl rfl rfl ?_
    refine y_getI (q := 9) rfl rfl (by decide) atC0 rfl rfl ?_
    refine y_lt (q := 15) (q' := 12) rfl rfl rfl rfl rfl (fun c3 => ?_) (fun c4 => ?_)
    · skip
      refine y_aload_n (q := 16) rfl rfl rfl ?_
      refine y_getR (b := 43) (q := 19) rfl rfl (by decide) atC0 rfl rfl ?_
      refine y_getT (q := 22) rfl rfl (by decide) (shS zS43) rfl rfl ?_
      refine y_getK (n := ((dtx (h 43 3)) - 10) / 4) (x := dti (dtx (h 43 3))) (q := 25) rfl rfl (by decide) (shT (zT_dtx _)) rfl (shTp (zT_dtx _)) rfl rfl ?_
      refine y_istore_n (lo' := [some (.ref 0), some (.int v1), some (.int (dti (dtx (h 43 3))))]) (q := 26) rfl (Nat.le_of_ble_eq_true rfl) rfl rfl ?_
      refine y_aload_n (q := 27) rfl rfl rfl ?_
      refine y_getR (b := 43) (q := 30) rfl rfl (by decide) atC0 rfl rfl ?_
      refine y_aload_n (q := 31) rfl rfl rfl ?_
      refine y_getR (b := 6) (q := 34) rfl rfl (by decide) atC0 rfl rfl ?_
      refine y_iload_n (q := 35) rfl rfl rfl ?_
      refine y_guard (fun c5 => ?_)
      refine y_aald (b := (10 + 4 * v1.toInt.toNat)) (K := v1.toInt.toNat) (X := v1.toInt) (q := 36) hbC rfl atC6 (by decide) rfl c5.1 rfl (at6k (by omega : v1.toInt.toNat < 6)) rfl ?_
      refine y_putT (q := 39) rfl rfl (by decide) (shS zS43) rfl (dtx_dti (zT6 (by omega : v1.toInt.toNat < 6))) rfl rfl rfl (fun g6 => ?_)
      refine y_iload_n (q := 40) rfl rfl rfl ?_
      exact y_retI rfl (by decide) rfl rfl
    · skip
      refine y_bipush (x := (-2)) (q := 14) rfl (by decide) rfl ?_
      exact y_retI rfl (by decide) rfl rfl
def f_X6_isEither (v0 : Int32) : Option (Int32) := if v0.toInt = 0 then ((some 1)) else (if v0.toInt = 1 then ((some 1)) else ((some 0)))
theorem m_X6_isEither {d : Nat} (hd : 1 ≤ d) (v0 : Int32) (h : dH) : dX shC d 103 [.int v0] (dP h) (f_X6_isEither v0) h := by
  obtain ⟨e, rfl⟩ : ∃ e, d = e + 1 := ⟨d - 1, by omega⟩
  have hd : 0 ≤ e := by omega
  refine dX_of (mj := mj103) (lo := [some (.int v0)]) rfl (Nat.le_of_ble_eq_true rfl) rfl ?_
  unfold f_X6_isEither
  refine y_iload_n (q := 1) rfl rfl rfl ?_
  refine y_eq0 (q := 9) (q' := 4) rfl rfl rfl rfl (fun c1 => ?_) (fun c2 => ?_)
  · skip
    refine y_iconst (x := 1) (q := 10) rfl (by decide) rfl ?_
    refine y_goto (q := 14) rfl rfl ?_
    exact y_retP rfl (by decide) rfl rfl
  · skip
    refine y_iload_n (q := 5) rfl rfl rfl ?_
    refine y_iconst (x := 1) (q := 6) rfl (by decide) rfl ?_
    refine y_ne (q := 13) (q' := 9) rfl rfl (by decide) rfl rfl (fun c3 => ?_) (fun c4 => ?_)
    · skip
      refine y_iconst (x := 1) (q := 10) rfl (by decide) rfl ?_
      refine y_goto (q := 14) rfl rfl ?_
      exact y_retP rfl (by decide) rfl rfl
    · skip
      refine y_iconst (x := 0) (q := 14) rfl (by decide) rfl ?_
      exact y_retP rfl (by decide) rfl rfl
def f_X6_asks (v1 : Int32) (v2 : Int32) (v3 : Int32) (h : dH) : Option (Int32 × dH) := oP (f_X6_isTwo v1 v2 h) (fun r1 => if r1.toInt = 0 then (some ((-2), h)) else (oP (f_X6_isEither v3) (fun r4 => if r4.toInt = 0 then (some ((-2), h)) else (if v3.toInt = 0 then (oI (f_X3_meets 43 v1 v2 h) (fun r9 g10 => some (r9, g10))) else (oI (f_X3_forgets 43 v1 v2 h) (fun r11 g12 => some (r11, g12)))))))
theorem m_X6_asks {d : Nat} (hd : 4 ≤ d) (v1 : Int32) (v2 : Int32) (v3 : Int32) (h : dH) : dX shC d 73 [.ref 0, .int v1, .int v2, .int v3] dI (f_X6_asks v1 v2 v3 h) h := by
  obtain ⟨e, rfl⟩ : ∃ e, d = e + 1 := ⟨d - 1, by omega⟩
  have hd : 3 ≤ e := by omega
  refine dX_of (mj := mj73) (lo := [some (.ref 0), some (.int v1), some (.int v2), some (.int v3)]) rfl (Nat.le_of_ble_eq_true rfl) rfl ?_
  unfold f_X6_asks
  refine y_aload_n (q := 1) rfl rfl rfl ?_
  refine y_iload_n (q := 2) rfl rfl rfl ?_
  refine y_iload_n (q := 3) rfl rfl rfl ?_
  refine y_callP (I := .invokevirtual 119) (idx := 119) (KD := 1) (J := 108) (mj := mj98) (as := [.ref 0, .int v1, .int v2]) (r := []) (q := 6) rfl (fun _ _ _ _ _ _ => rfl) rfl (by decide) rfl rfl rfl rfl rfl (Nat.le_of_ble_eq_true rfl) (d_recv atC0 (by decide) (by decide)) rfl (m_X6_isTwo (Nat.le_trans (by decide) hd) v1 v2 h) (fun r1 => ?_)
  refine y_eq0 (q := 16) (q' := 9) rfl rfl rfl rfl (fun c2 => ?_) (fun c3 => ?_)
  · skip
    refine y_bipush (x := (-2)) (q := 18) rfl (by decide) rfl ?_
    exact y_retI rfl (by decide) rfl rfl
  · skip
    refine y_iload_n (q := 10) rfl rfl rfl ?_
    refine y_callP (I := .invokestatic 154) (idx := 154) (KD := 0) (J := 113) (mj := mj103) (as := [.int v3]) (r := []) (q := 13) rfl (fun _ _ _ _ _ _ => rfl) rfl (by decide) rfl rfl rfl rfl rfl (Nat.le_of_ble_eq_true rfl) rfl rfl (m_X6_isEither (Nat.le_trans (by decide) hd) v3 h) (fun r4 => ?_)
    refine y_ne0 (q := 19) (q' := 16) rfl rfl rfl rfl (fun c5 => ?_) (fun c6 => ?_)
    · skip
      refine y_bipush (x := (-2)) (q := 18) rfl (by decide) rfl ?_
      exact y_retI rfl (by decide) rfl rfl
    · skip
      refine y_iload_n (q := 20) rfl rfl rfl ?_
      refine y_ne0 (q := 35) (q' := 23) rfl rfl rfl rfl (fun c7 => ?_) (fun c8 => ?_)
      · skip
        refine y_aload_n (q := 24) rfl rfl rfl ?_
        refine y_getR (b := 43) (q := 27) rfl rfl (by decide) atC0 rfl rfl ?_
        refine y_iload_n (q := 28) rfl rfl rfl ?_
        refine y_iload_n (q := 29) rfl rfl rfl ?_
        refine y_callI (I := .invokevirtual 157) (idx := 157) (KD := 1) (J := 47) (mj := mj37) (as := [.ref 43, .int v1, .int v2]) (r := []) (q := 32) rfl (fun _ _ _ _ _ _ => rfl) rfl (by decide) rfl rfl rfl rfl rfl (Nat.le_of_ble_eq_true rfl) (d_recv (shS zS43) (by decide) (by decide)) rfl (m_X3_meets (Nat.le_trans (by decide) hd) 43 zS43 v1 v2 h) (fun r9 g10 => ?_)
        refine y_goto (q := 44) rfl rfl ?_
        exact y_retI rfl (by decide) rfl rfl
      · skip
        refine y_aload_n (q := 36) rfl rfl rfl ?_
        refine y_getR (b := 43) (q := 39) rfl rfl (by decide) atC0 rfl rfl ?_
        refine y_iload_n (q := 40) rfl rfl rfl ?_
        refine y_iload_n (q := 41) rfl rfl rfl ?_
        refine y_callI (I := .invokevirtual 160) (idx := 160) (KD := 1) (J := 48) (mj := mj38) (as := [.ref 43, .int v1, .int v2]) (r := []) (q := 44) rfl (fun _ _ _ _ _ _ => rfl) rfl (by decide) rfl rfl rfl rfl rfl (Nat.le_of_ble_eq_true rfl) (d_recv (shS zS43) (by decide) (by decide)) rfl (m_X3_forgets (Nat.le_trans (by decide) hd) 43 zS43 v1 v2 h) (fun r11 g12 => ?_)
        exact y_retI rfl (by decide) rfl rfl
def f_X6_feast  (h : dH) : Option (Int32 × dH) := oV (f_X3_holdFeast 43 h) (fun g1 => oP (f_X3_friends 43 g1) (fun r2 => some (r2, g1)))
theorem m_X6_feast {d : Nat} (hd : 5 ≤ d)  (h : dH) : dX shC d 74 [.ref 0] dI (f_X6_feast  h) h := by
  obtain ⟨e, rfl⟩ : ∃ e, d = e + 1 := ⟨d - 1, by omega⟩
  have hd : 4 ≤ e := by omega
  refine dX_of (mj := mj74) (lo := [some (.ref 0)]) rfl (Nat.le_of_ble_eq_true rfl) rfl ?_
  unfold f_X6_feast
  refine y_aload_n (q := 1) rfl rfl rfl ?_
  refine y_getR (b := 43) (q := 4) rfl rfl (by decide) atC0 rfl rfl ?_
  refine y_callV (I := .invokevirtual 163) (idx := 163) (KD := 1) (J := 51) (mj := mj41) (as := [.ref 43]) (r := []) (q := 7) rfl (fun _ _ _ _ _ _ => rfl) rfl (by decide) rfl rfl rfl rfl rfl (Nat.le_of_ble_eq_true rfl) (d_recv (shS zS43) (by decide) (by decide)) rfl (m_X3_holdFeast (Nat.le_trans (by decide) hd) 43 zS43 h) (fun g1 => ?_)
  refine y_aload_n (q := 8) rfl rfl rfl ?_
  refine y_getR (b := 43) (q := 11) rfl rfl (by decide) atC0 rfl rfl ?_
  refine y_callP (I := .invokevirtual 166) (idx := 166) (KD := 1) (J := 43) (mj := mj33) (as := [.ref 43]) (r := []) (q := 14) rfl (fun _ _ _ _ _ _ => rfl) rfl (by decide) rfl rfl rfl rfl rfl (Nat.le_of_ble_eq_true rfl) (d_recv (shS zS43) (by decide) (by decide)) rfl (m_X3_friends (Nat.le_trans (by decide) hd) 43 zS43 g1) (fun r2 => ?_)
  exact y_retI rfl (by decide) rfl rfl
def f_X6_year  (h : dH) : Option (Int32 × dH) := if (h 43 0).toInt < 999 then (oV (f_X3_endYear 43 h) (fun g3 => oP (f_X3_friends 43 g3) (fun r4 => some (r4, g3)))) else (some ((-3), h))
theorem m_X6_year {d : Nat} (hd : 5 ≤ d)  (h : dH) : dX shC d 75 [.ref 0] dI (f_X6_year  h) h := by
  obtain ⟨e, rfl⟩ : ∃ e, d = e + 1 := ⟨d - 1, by omega⟩
  have hd : 4 ≤ e := by omega
  refine dX_of (mj := mj75) (lo := [some (.ref 0)]) rfl (Nat.le_of_ble_eq_true rfl) rfl ?_
  unfold f_X6_year
  refine y_aload_n (q := 1) rfl rfl rfl ?_
  refine y_getR (b := 43) (q := 4) rfl rfl (by decide) atC0 rfl rfl ?_
  refine y_getI (q := 7) rfl rfl (by decide) (shS zS43) rfl rfl ?_
  refine y_sipush (x := 999) (q := 10) rfl (by decide) rfl ?_
  refine y_lt (q := 16) (q' := 13) rfl rfl (by decide) rfl rfl (fun c1 => ?_) (fun c2 => ?_)
  · skip
    refine y_aload_n (q := 17) rfl rfl rfl ?_
    refine y_getR (b := 43) (q := 20) rfl rfl (by decide) atC0 rfl rfl ?_
    refine y_callV (I := .invokevirtual 169) (idx := 169) (KD := 1) (J := 52) (mj := mj42) (as := [.ref 43]) (r := []) (q := 23) rfl (fun _ _ _ _ _ _ => rfl) rfl (by decide) rfl rfl rfl rfl rfl (Nat.le_of_ble_eq_true rfl) (d_recv (shS zS43) (by decide) (by decide)) rfl (m_X3_endYear (Nat.le_trans (by decide) hd) 43 zS43 h) (fun g3 => ?_)
    refine y_aload_n (q := 24) rfl rfl rfl ?_
    refine y_getR (b := 43) (q := 27) rfl rfl (by decide) atC0 rfl rfl ?_
    refine y_callP (I := .invokevirtual 166) (idx := 166) (KD := 1) (J := 43) (mj := mj33) (as := [.ref 43]) (r := []) (q := 30) rfl (fun _ _ _ _ _ _ => rfl) rfl (by decide) rfl rfl rfl rfl rfl (Nat.le_of_ble_eq_true rfl) (d_recv (shS zS43) (by decide) (by decide)) rfl (m_X3_friends (Nat.le_trans (by decide) hd) 43 zS43 g3) (fun r4 => ?_)
    exact y_retI rfl (by decide) rfl rfl
  · skip
    refine y_bipush (x := (-3)) (q := 15) rfl (by decide) rfl ?_
    exact y_retI rfl (by decide) rfl rfl
def f_X6_figure (a1 : Nat) (v2 : Int32) (h : dH) : Option (Int32 × dH) := oV (f_X0_see a1 h) (fun g1 => if v2.toInt = 0 then (oP (f_X3_friends a1 g1) (fun r4 => some (r4, g1))) else (if v2.toInt = 1 then (oP (f_X0_everyone  g1) (fun r7 => oP (f_X0_companies r7 g1) (fun r8 => some (r8, g1)))) else (if v2.toInt = 2 then (oP (f_X0_largestCompany  g1) (fun r11 => some (r11, g1))) else (if v2.toInt = 3 then (oP (f_X3_allStrength a1 g1) (fun r14 => some (r14, g1))) else (if v2.toInt = 4 then (oP (f_X0_longestWay 0 g1) (fun r17 => some (r17, g1))) else (oI (f_X3_quietTable a1 g1) (fun r18 g19 => some (r18, g19))))))))
theorem m_X6_figure {d : Nat} (hd : 6 ≤ d) (a1 : Nat) (ha1 : zS a1) (v2 : Int32) (h : dH) : dX shC d 107 [.ref 0, .ref a1, .int v2] dI (f_X6_figure a1 v2 h) h := by
  obtain ⟨e, rfl⟩ : ∃ e, d = e + 1 := ⟨d - 1, by omega⟩
  have hd : 5 ≤ e := by omega
  refine dX_of (mj := mj107) (lo := [some (.ref 0), some (.ref a1), some (.int v2)]) rfl (Nat.le_of_ble_eq_true rfl) rfl ?_
  unfold f_X6_figure
  refine y_aload_n (q := 1) rfl rfl rfl ?_
  refine y_getR (b := 7) (q := 4) rfl rfl (by decide) atC0 rfl rfl ?_
  refine y_aload_n (q := 5) rfl rfl rfl ?_
  refine y_callV (I := .invokevirtual 176) (idx := 176) (KD := 1) (J := 11) (mj := mj1) (as := [.ref 7, .ref a1]) (r := []) (q := 8) rfl (fun _ _ _ _ _ _ => rfl) rfl (by decide) rfl rfl rfl rfl rfl (Nat.le_of_ble_eq_true rfl) (d_recv atC7 (by decide) (by decide)) rfl (m_X0_see (Nat.le_trans (by decide) hd) a1 ha1 h) (fun g1 => ?_)
  refine y_iload_n (q := 9) rfl rfl rfl ?_
  refine dY_ite (fun c2 => ?_) (fun c3 => ?_)
  · skip
    refine y_tabI (q := 44) 0 rfl c2 (by decide) (by decide) rfl rfl ?_
    refine y_aload_n (q := 45) rfl rfl rfl ?_
    refine y_callP (I := .invokevirtual 166) (idx := 166) (KD := 1) (J := 43) (mj := mj33) (as := [.ref a1]) (r := []) (q := 48) rfl (fun _ _ _ _ _ _ => rfl) rfl (by decide) rfl rfl rfl rfl rfl (Nat.le_of_ble_eq_true rfl) (d_recv (shS ha1) (by decide) (by decide)) rfl (m_X3_friends (Nat.le_trans (by decide) hd) a1 ha1 g1) (fun r4 => ?_)
    exact y_retI rfl (by decide) rfl rfl
  refine dY_ite (fun c5 => ?_) (fun c6 => ?_)
  · skip
    refine y_tabI (q := 49) 1 rfl c5 (by decide) (by decide) rfl rfl ?_
    refine y_aload_n (q := 50) rfl rfl rfl ?_
    refine y_getR (b := 7) (q := 53) rfl rfl (by decide) atC0 rfl rfl ?_
    refine y_aload_n (q := 54) rfl rfl rfl ?_
    refine y_getR (b := 7) (q := 57) rfl rfl (by decide) atC0 rfl rfl ?_
    refine y_callP (I := .invokevirtual 201) (idx := 201) (KD := 1) (J := 12) (mj := mj2) (as := [.ref 7]) (r := [.ref 7]) (q := 60) rfl (fun _ _ _ _ _ _ => rfl) rfl (by decide) rfl rfl rfl rfl rfl (Nat.le_of_ble_eq_true rfl) (d_recv atC7 (by decide) (by decide)) rfl (m_X0_everyone (Nat.le_trans (by decide) hd)  g1) (fun r7 => ?_)
    refine y_callP (I := .invokevirtual 204) (idx := 204) (KD := 1) (J := 14) (mj := mj4) (as := [.ref 7, .int r7]) (r := []) (q := 63) rfl (fun _ _ _ _ _ _ => rfl) rfl (by decide) rfl rfl rfl rfl rfl (Nat.le_of_ble_eq_true rfl) (d_recv atC7 (by decide) (by decide)) rfl (m_X0_companies (Nat.le_trans (by decide) hd) r7 g1) (fun r8 => ?_)
    exact y_retI rfl (by decide) rfl rfl
  refine dY_ite (fun c9 => ?_) (fun c10 => ?_)
  · skip
    refine y_tabI (q := 64) 2 rfl c9 (by decide) (by decide) rfl rfl ?_
    refine y_aload_n (q := 65) rfl rfl rfl ?_
    refine y_getR (b := 7) (q := 68) rfl rfl (by decide) atC0 rfl rfl ?_
    refine y_callP (I := .invokevirtual 286) (idx := 286) (KD := 1) (J := 15) (mj := mj5) (as := [.ref 7]) (r := []) (q := 71) rfl (fun _ _ _ _ _ _ => rfl) rfl (by decide) rfl rfl rfl rfl rfl (Nat.le_of_ble_eq_true rfl) (d_recv atC7 (by decide) (by decide)) rfl (m_X0_largestCompany (Nat.le_trans (by decide) hd)  g1) (fun r11 => ?_)
    exact y_retI rfl (by decide) rfl rfl
  refine dY_ite (fun c12 => ?_) (fun c13 => ?_)
  · skip
    refine y_tabI (q := 72) 3 rfl c12 (by decide) (by decide) rfl rfl ?_
    refine y_aload_n (q := 73) rfl rfl rfl ?_
    refine y_callP (I := .invokevirtual 289) (idx := 289) (KD := 1) (J := 44) (mj := mj34) (as := [.ref a1]) (r := []) (q := 76) rfl (fun _ _ _ _ _ _ => rfl) rfl (by decide) rfl rfl rfl rfl rfl (Nat.le_of_ble_eq_true rfl) (d_recv (shS ha1) (by decide) (by decide)) rfl (m_X3_allStrength (Nat.le_trans (by decide) hd) a1 ha1 g1) (fun r14 => ?_)
    exact y_retI rfl (by decide) rfl rfl
  refine dY_ite (fun c15 => ?_) (fun c16 => ?_)
  · skip
    refine y_tabI (q := 77) 4 rfl c15 (by decide) (by decide) rfl rfl ?_
    refine y_aload_n (q := 78) rfl rfl rfl ?_
    refine y_getR (b := 7) (q := 81) rfl rfl (by decide) atC0 rfl rfl ?_
    refine y_iconst (x := 0) (q := 82) rfl (by decide) rfl ?_
    refine y_callP (I := .invokevirtual 207) (idx := 207) (KD := 1) (J := 17) (mj := mj7) (as := [.ref 7, .int 0]) (r := []) (q := 85) rfl (fun _ _ _ _ _ _ => rfl) rfl (by decide) rfl rfl rfl rfl rfl (Nat.le_of_ble_eq_true rfl) (d_recv atC7 (by decide) (by decide)) rfl (m_X0_longestWay (Nat.le_trans (by decide) hd) 0 g1) (fun r17 => ?_)
    exact y_retI rfl (by decide) rfl rfl
  refine y_tabD (q := 86) rfl (by omega) rfl ?_
  refine y_aload_n (q := 87) rfl rfl rfl ?_
  refine y_callI (I := .invokevirtual 292) (idx := 292) (KD := 1) (J := 54) (mj := mj44) (as := [.ref a1]) (r := []) (q := 90) rfl (fun _ _ _ _ _ _ => rfl) rfl (by decide) rfl rfl rfl rfl rfl (Nat.le_of_ble_eq_true rfl) (d_recv (shS ha1) (by decide) (by decide)) rfl (m_X3_quietTable (Nat.le_trans (by decide) hd) a1 ha1 g1) (fun r18 g19 => ?_)
  exact y_retI rfl (by decide) rfl rfl
def f_X6_street (v1 : Int32) (h : dH) : Option (Int32 × dH) := if v1.toInt < 0 then (some ((-2), h)) else (if 5 < v1.toInt then (some ((-2), h)) else (oI (f_X6_figure 43 v1 h) (fun r5 g6 => some (r5, g6))))
theorem m_X6_street {d : Nat} (hd : 7 ≤ d) (v1 : Int32) (h : dH) : dX shC d 76 [.ref 0, .int v1] dI (f_X6_street v1 h) h := by
  obtain ⟨e, rfl⟩ : ∃ e, d = e + 1 := ⟨d - 1, by omega⟩
  have hd : 6 ≤ e := by omega
  refine dX_of (mj := mj76) (lo := [some (.ref 0), some (.int v1)]) rfl (Nat.le_of_ble_eq_true rfl) rfl ?_
  unfold f_X6_street
  refine y_iload_n (q := 1) rfl rfl rfl ?_
  refine y_lt0 (q := 9) (q' := 4) rfl rfl rfl rfl (fun c1 => ?_) (fun c2 => ?_)
  · skip
    refine y_bipush (x := (-2)) (q := 11) rfl (by decide) rfl ?_
    exact y_retI rfl (by decide) rfl rfl
  · skip
    refine y_iload_n (q := 5) rfl rfl rfl ?_
    refine y_iconst (x := 5) (q := 6) rfl (by decide) rfl ?_
    refine y_le (q := 12) (q' := 9) rfl rfl (by decide) rfl rfl (fun c3 => ?_) (fun c4 => ?_)
    · skip
      refine y_bipush (x := (-2)) (q := 11) rfl (by decide) rfl ?_
      exact y_retI rfl (by decide) rfl rfl
    · skip
      refine y_aload_n (q := 13) rfl rfl rfl ?_
      refine y_aload_n (q := 14) rfl rfl rfl ?_
      refine y_getR (b := 43) (q := 17) rfl rfl (by decide) atC0 rfl rfl ?_
      refine y_iload_n (q := 18) rfl rfl rfl ?_
      refine y_callI (I := .invokevirtual 172) (idx := 172) (KD := 1) (J := 117) (mj := mj107) (as := [.ref 0, .ref 43, .int v1]) (r := []) (q := 21) rfl (fun _ _ _ _ _ _ => rfl) rfl (by decide) rfl rfl rfl rfl rfl (Nat.le_of_ble_eq_true rfl) (d_recv atC0 (by decide) (by decide)) rfl (m_X6_figure (Nat.le_trans (by decide) hd) 43 zS43 v1 h) (fun r5 g6 => ?_)
      exact y_retI rfl (by decide) rfl rfl
def f_X6_way (v1 : Int32) (v2 : Int32) (h : dH) : Option (Int32 × dH) := oP (f_X6_isHouse v1 h) (fun r1 => if r1.toInt = 0 then (some ((-2), h)) else (oP (f_X6_isHouse v2 h) (fun r4 => if r4.toInt = 0 then (some ((-2), h)) else (oV (f_X0_see 43 h) (fun g7 => oP (f_X0_distance v1 v2 g7) (fun r8 => some (r8, g7)))))))
theorem m_X6_way {d : Nat} (hd : 3 ≤ d) (v1 : Int32) (v2 : Int32) (h : dH) : dX shC d 77 [.ref 0, .int v1, .int v2] dI (f_X6_way v1 v2 h) h := by
  obtain ⟨e, rfl⟩ : ∃ e, d = e + 1 := ⟨d - 1, by omega⟩
  have hd : 2 ≤ e := by omega
  refine dX_of (mj := mj77) (lo := [some (.ref 0), some (.int v1), some (.int v2)]) rfl (Nat.le_of_ble_eq_true rfl) rfl ?_
  unfold f_X6_way
  refine y_aload_n (q := 1) rfl rfl rfl ?_
  refine y_iload_n (q := 2) rfl rfl rfl ?_
  refine y_callP (I := .invokevirtual 90) (idx := 90) (KD := 1) (J := 107) (mj := mj97) (as := [.ref 0, .int v1]) (r := []) (q := 5) rfl (fun _ _ _ _ _ _ => rfl) rfl (by decide) rfl rfl rfl rfl rfl (Nat.le_of_ble_eq_true rfl) (d_recv atC0 (by decide) (by decide)) rfl (m_X6_isHouse (Nat.le_trans (by decide) hd) v1 h) (fun r1 => ?_)
  refine y_eq0 (q := 16) (q' := 8) rfl rfl rfl rfl (fun c2 => ?_) (fun c3 => ?_)
  · skip
    refine y_bipush (x := (-2)) (q := 18) rfl (by decide) rfl ?_
    exact y_retI rfl (by decide) rfl rfl
  · skip
    refine y_aload_n (q := 9) rfl rfl rfl ?_
    refine y_iload_n (q := 10) rfl rfl rfl ?_
    refine y_callP (I := .invokevirtual 90) (idx := 90) (KD := 1) (J := 107) (mj := mj97) (as := [.ref 0, .int v2]) (r := []) (q := 13) rfl (fun _ _ _ _ _ _ => rfl) rfl (by decide) rfl rfl rfl rfl rfl (Nat.le_of_ble_eq_true rfl) (d_recv atC0 (by decide) (by decide)) rfl (m_X6_isHouse (Nat.le_trans (by decide) hd) v2 h) (fun r4 => ?_)
    refine y_ne0 (q := 19) (q' := 16) rfl rfl rfl rfl (fun c5 => ?_) (fun c6 => ?_)
    · skip
      refine y_bipush (x := (-2)) (q := 18) rfl (by decide) rfl ?_
      exact y_retI rfl (by decide) rfl rfl
    · skip
      refine y_aload_n (q := 20) rfl rfl rfl ?_
      refine y_getR (b := 7) (q := 23) rfl rfl (by decide) atC0 rfl rfl ?_
      refine y_aload_n (q := 24) rfl rfl rfl ?_
      refine y_getR (b := 43) (q := 27) rfl rfl (by decide) atC0 rfl rfl ?_
      refine y_callV (I := .invokevirtual 176) (idx := 176) (KD := 1) (J := 11) (mj := mj1) (as := [.ref 7, .ref 43]) (r := []) (q := 30) rfl (fun _ _ _ _ _ _ => rfl) rfl (by decide) rfl rfl rfl rfl rfl (Nat.le_of_ble_eq_true rfl) (d_recv atC7 (by decide) (by decide)) rfl (m_X0_see (Nat.le_trans (by decide) hd) 43 zS43 h) (fun g7 => ?_)
      refine y_aload_n (q := 31) rfl rfl rfl ?_
      refine y_getR (b := 7) (q := 34) rfl rfl (by decide) atC0 rfl rfl ?_
      refine y_iload_n (q := 35) rfl rfl rfl ?_
      refine y_iload_n (q := 36) rfl rfl rfl ?_
      refine y_callP (I := .invokevirtual 180) (idx := 180) (KD := 1) (J := 16) (mj := mj6) (as := [.ref 7, .int v1, .int v2]) (r := []) (q := 39) rfl (fun _ _ _ _ _ _ => rfl) rfl (by decide) rfl rfl rfl rfl rfl (Nat.le_of_ble_eq_true rfl) (d_recv atC7 (by decide) (by decide)) rfl (m_X0_distance (Nat.le_trans (by decide) hd) v1 v2 g7) (fun r8 => ?_)
      exact y_retI rfl (by decide) rfl rfl
def f_X6_isYears (v0 : Int32) : Option (Int32) := if v0.toInt < 0 then ((some 0)) else (if 20 < v0.toInt then ((some 0)) else ((some 1)))
theorem m_X6_isYears {d : Nat} (hd : 1 ≤ d) (v0 : Int32) (h : dH) : dX shC d 101 [.int v0] (dP h) (f_X6_isYears v0) h := by
  obtain ⟨e, rfl⟩ : ∃ e, d = e + 1 := ⟨d - 1, by omega⟩
  have hd : 0 ≤ e := by omega
  refine dX_of (mj := mj101) (lo := [some (.int v0)]) rfl (Nat.le_of_ble_eq_true rfl) rfl ?_
  unfold f_X6_isYears
  refine y_iload_n (q := 1) rfl rfl rfl ?_
  refine y_lt0 (q := 14) (q' := 4) rfl rfl rfl rfl (fun c1 => ?_) (fun c2 => ?_)
  · skip
    refine y_iconst (x := 0) (q := 15) rfl (by decide) rfl ?_
    exact y_retP rfl (by decide) rfl rfl
  · skip
    refine y_iload_n (q := 5) rfl rfl rfl ?_
    refine y_bipush (x := 20) (q := 7) rfl (by decide) rfl ?_
    refine y_gt (q := 14) (q' := 10) rfl rfl (by decide) rfl rfl (fun c3 => ?_) (fun c4 => ?_)
    · skip
      refine y_iconst (x := 0) (q := 15) rfl (by decide) rfl ?_
      exact y_retP rfl (by decide) rfl rfl
    · skip
      refine y_iconst (x := 1) (q := 11) rfl (by decide) rfl ?_
      refine y_goto (q := 15) rfl rfl ?_
      exact y_retP rfl (by decide) rfl rfl
def f_X6_run (v1 : Int32) (v2 : Int32) (h : dH) : Option (Int32 × dH) := oP (f_X6_isYears v1) (fun r1 => if r1.toInt = 0 then (some ((-2), h)) else (if v2.toInt < 0 then (some ((-2), h)) else (if 4 < v2.toInt then (some ((-2), h)) else (oV (f_X3_become 57 43 h) (fun g8 => oI (f_X3_pass 57 v1 g8) (fun r9 g10 => oI (f_X6_figure 57 v2 g10) (fun r11 g12 => some (r11, g12))))))))
theorem m_X6_run {d : Nat} (hd : 7 ≤ d) (v1 : Int32) (v2 : Int32) (h : dH) : dX shC d 78 [.ref 0, .int v1, .int v2] dI (f_X6_run v1 v2 h) h := by
  obtain ⟨e, rfl⟩ : ∃ e, d = e + 1 := ⟨d - 1, by omega⟩
  have hd : 6 ≤ e := by omega
  refine dX_of (mj := mj78) (lo := [some (.ref 0), some (.int v1), some (.int v2)]) rfl (Nat.le_of_ble_eq_true rfl) rfl ?_
  unfold f_X6_run
  refine y_iload_n (q := 1) rfl rfl rfl ?_
  refine y_callP (I := .invokestatic 183) (idx := 183) (KD := 0) (J := 111) (mj := mj101) (as := [.int v1]) (r := []) (q := 4) rfl (fun _ _ _ _ _ _ => rfl) rfl (by decide) rfl rfl rfl rfl rfl (Nat.le_of_ble_eq_true rfl) rfl rfl (m_X6_isYears (Nat.le_trans (by decide) hd) v1 h) (fun r1 => ?_)
  refine y_eq0 (q := 16) (q' := 7) rfl rfl rfl rfl (fun c2 => ?_) (fun c3 => ?_)
  · skip
    refine y_bipush (x := (-2)) (q := 18) rfl (by decide) rfl ?_
    exact y_retI rfl (by decide) rfl rfl
  · skip
    refine y_iload_n (q := 8) rfl rfl rfl ?_
    refine y_lt0 (q := 16) (q' := 11) rfl rfl rfl rfl (fun c4 => ?_) (fun c5 => ?_)
    · skip
      refine y_bipush (x := (-2)) (q := 18) rfl (by decide) rfl ?_
      exact y_retI rfl (by decide) rfl rfl
    · skip
      refine y_iload_n (q := 12) rfl rfl rfl ?_
      refine y_iconst (x := 4) (q := 13) rfl (by decide) rfl ?_
      refine y_le (q := 19) (q' := 16) rfl rfl (by decide) rfl rfl (fun c6 => ?_) (fun c7 => ?_)
      · skip
        refine y_bipush (x := (-2)) (q := 18) rfl (by decide) rfl ?_
        exact y_retI rfl (by decide) rfl rfl
      · skip
        refine y_aload_n (q := 20) rfl rfl rfl ?_
        refine y_getR (b := 57) (q := 23) rfl rfl (by decide) atC0 rfl rfl ?_
        refine y_aload_n (q := 24) rfl rfl rfl ?_
        refine y_getR (b := 43) (q := 27) rfl rfl (by decide) atC0 rfl rfl ?_
        refine y_callV (I := .invokevirtual 186) (idx := 186) (KD := 1) (J := 38) (mj := mj28) (as := [.ref 57, .ref 43]) (r := []) (q := 30) rfl (fun _ _ _ _ _ _ => rfl) rfl (by decide) rfl rfl rfl rfl rfl (Nat.le_of_ble_eq_true rfl) (d_recv (shS zS57) (by decide) (by decide)) rfl (m_X3_become (Nat.le_trans (by decide) hd) 57 zS57 43 zS43 h) (fun g8 => ?_)
        refine y_aload_n (q := 31) rfl rfl rfl ?_
        refine y_getR (b := 57) (q := 34) rfl rfl (by decide) atC0 rfl rfl ?_
        refine y_iload_n (q := 35) rfl rfl rfl ?_
        refine y_callI (I := .invokevirtual 189) (idx := 189) (KD := 1) (J := 53) (mj := mj43) (as := [.ref 57, .int v1]) (r := []) (q := 38) rfl (fun _ _ _ _ _ _ => rfl) rfl (by decide) rfl rfl rfl rfl rfl (Nat.le_of_ble_eq_true rfl) (d_recv (shS zS57) (by decide) (by decide)) rfl (m_X3_pass (Nat.le_trans (by decide) hd) 57 zS57 v1 g8) (fun r9 g10 => ?_)
        refine y_pop (q := 39) rfl rfl ?_
        refine y_aload_n (q := 40) rfl rfl rfl ?_
        refine y_aload_n (q := 41) rfl rfl rfl ?_
        refine y_getR (b := 57) (q := 44) rfl rfl (by decide) atC0 rfl rfl ?_
        refine y_iload_n (q := 45) rfl rfl rfl ?_
        refine y_callI (I := .invokevirtual 172) (idx := 172) (KD := 1) (J := 117) (mj := mj107) (as := [.ref 0, .ref 57, .int v2]) (r := []) (q := 48) rfl (fun _ _ _ _ _ _ => rfl) rfl (by decide) rfl rfl rfl rfl rfl (Nat.le_of_ble_eq_true rfl) (d_recv atC0 (by decide) (by decide)) rfl (m_X6_figure (Nat.le_trans (by decide) hd) 57 zS57 v2 g10) (fun r11 g12 => ?_)
        exact y_retI rfl (by decide) rfl rfl
def f_X6_isFriends (v0 : Int32) : Option (Int32) := if v0.toInt < 0 then ((some 0)) else (if 28 < v0.toInt then ((some 0)) else ((some 1)))
theorem m_X6_isFriends {d : Nat} (hd : 1 ≤ d) (v0 : Int32) (h : dH) : dX shC d 102 [.int v0] (dP h) (f_X6_isFriends v0) h := by
  obtain ⟨e, rfl⟩ : ∃ e, d = e + 1 := ⟨d - 1, by omega⟩
  have hd : 0 ≤ e := by omega
  refine dX_of (mj := mj102) (lo := [some (.int v0)]) rfl (Nat.le_of_ble_eq_true rfl) rfl ?_
  unfold f_X6_isFriends
  refine y_iload_n (q := 1) rfl rfl rfl ?_
  refine y_lt0 (q := 14) (q' := 4) rfl rfl rfl rfl (fun c1 => ?_) (fun c2 => ?_)
  · skip
    refine y_iconst (x := 0) (q := 15) rfl (by decide) rfl ?_
    exact y_retP rfl (by decide) rfl rfl
  · skip
    refine y_iload_n (q := 5) rfl rfl rfl ?_
    refine y_bipush (x := 28) (q := 7) rfl (by decide) rfl ?_
    refine y_gt (q := 14) (q' := 10) rfl rfl (by decide) rfl rfl (fun c3 => ?_) (fun c4 => ?_)
    · skip
      refine y_iconst (x := 0) (q := 15) rfl (by decide) rfl ?_
      exact y_retP rfl (by decide) rfl rfl
    · skip
      refine y_iconst (x := 1) (q := 11) rfl (by decide) rfl ?_
      refine y_goto (q := 15) rfl rfl ?_
      exact y_retP rfl (by decide) rfl rfl
def l_X6_takes_31 (v1 : Int32) (k : Int32 → Int32 → dH → Option (Int32 × dH)) : Nat → Int32 → Int32 → dH → Option (Int32 × dH)
  | 0, _, _, _ => none
  | n + 1, v2, v3, h => if v3.toInt < 20 then (if v2.toInt < v1.toInt then (oI (f_X3_pass 57 1 h) (fun r10 g11 => l_X6_takes_31 v1 k n r10 (v3 + 1) g11)) else (k v2 v3 h)) else (k v2 v3 h)
theorem lz_X6_takes_31 {d : Nat} (hd : 5 ≤ d) (v1 : Int32) (k : Int32 → Int32 → dH → Option (Int32 × dH)) (hk : ∀ (v2 : Int32) (v3 : Int32) (h : dH), dY shC d mj79 dI (k v2 v3 h) 57 [some (.ref 0), some (.int v1), some (.int v2), some (.int v3)] [] h) : ∀ (n : Nat) (v2 : Int32) (v3 : Int32) (h : dH), dY shC d mj79 dI (l_X6_takes_31 v1 k n v2 v3 h) 31 [some (.ref 0), some (.int v1), some (.int v2), some (.int v3)] [] h
  | 0, _, _, _ => dY_none
  | n + 1, v2, v3, h => by
    rw [l_X6_takes_31]
    refine y_iload_n (q := 32) rfl rfl rfl ?_
    refine y_bipush (x := 20) (q := 34) rfl (by decide) rfl ?_
    refine y_ge (q := 57) (q' := 37) rfl rfl (by decide) rfl rfl (fun c6 => ?_) (fun c7 => ?_)
    · skip
      refine y_iload_n (q := 38) rfl rfl rfl ?_
      refine y_iload_n (q := 39) rfl rfl rfl ?_
      refine y_ge (q := 57) (q' := 42) rfl rfl rfl rfl rfl (fun c8 => ?_) (fun c9 => ?_)
      · skip
        refine y_aload_n (q := 43) rfl rfl rfl ?_
        refine y_getR (b := 57) (q := 46) rfl rfl (by decide) atC0 rfl rfl ?_
        refine y_iconst (x := 1) (q := 47) rfl (by decide) rfl ?_
        refine y_callI (I := .invokevirtual 189) (idx := 189) (KD := 1) (J := 53) (mj := mj43) (as := [.ref 57, .int 1]) (r := []) (q := 50) rfl (fun _ _ _ _ _ _ => rfl) rfl (by decide) rfl rfl rfl rfl rfl (Nat.le_of_ble_eq_true rfl) (d_recv (shS zS57) (by decide) (by decide)) rfl (m_X3_pass (Nat.le_trans (by decide) hd) 57 zS57 1 h) (fun r10 g11 => ?_)
        refine y_istore_n (lo' := [some (.ref 0), some (.int v1), some (.int r10), some (.int v3)]) (q := 51) rfl (Nat.le_of_ble_eq_true rfl) rfl rfl ?_
        refine y_iinc (z := (v3 + 1)) (lo' := [some (.ref 0), some (.int v1), some (.int r10), some (.int (v3 + 1))]) (q := 54) rfl rfl (Nat.le_of_ble_eq_true rfl) (by rw [oi_1]) rfl rfl ?_
        refine y_goto (q := 31) rfl rfl ?_
        exact lz_X6_takes_31 hd v1 k hk n r10 (v3 + 1) g11 
      · skip
        exact hk v2 v3  h
    · skip
      exact hk v2 v3  h
def f_X6_takes (v1 : Int32) (h : dH) : Option (Int32 × dH) := oP (f_X6_isFriends v1) (fun r1 => if r1.toInt = 0 then (some ((-2), h)) else (oV (f_X3_become 57 43 h) (fun g4 => oP (f_X3_friends 57 g4) (fun r5 => l_X6_takes_31 v1  (fun v2_12 v3_13 g14 => if v2_12.toInt < v1.toInt then (some ((-1), g14)) else (some (v3_13, g14))) fuel0 r5 0 g4))))
theorem m_X6_takes {d : Nat} (hd : 6 ≤ d) (v1 : Int32) (h : dH) : dX shC d 79 [.ref 0, .int v1] dI (f_X6_takes v1 h) h := by
  obtain ⟨e, rfl⟩ : ∃ e, d = e + 1 := ⟨d - 1, by omega⟩
  have hd : 5 ≤ e := by omega
  refine dX_of (mj := mj79) (lo := [some (.ref 0), some (.int v1), none, none]) rfl (Nat.le_of_ble_eq_true rfl) rfl ?_
  unfold f_X6_takes
  refine y_iload_n (q := 1) rfl rfl rfl ?_
  refine y_callP (I := .invokestatic 192) (idx := 192) (KD := 0) (J := 112) (mj := mj102) (as := [.int v1]) (r := []) (q := 4) rfl (fun _ _ _ _ _ _ => rfl) rfl (by decide) rfl rfl rfl rfl rfl (Nat.le_of_ble_eq_true rfl) rfl rfl (m_X6_isFriends (Nat.le_trans (by decide) hd) v1 h) (fun r1 => ?_)
  refine y_ne0 (q := 10) (q' := 7) rfl rfl rfl rfl (fun c2 => ?_) (fun c3 => ?_)
  · skip
    refine y_bipush (x := (-2)) (q := 9) rfl (by decide) rfl ?_
    exact y_retI rfl (by decide) rfl rfl
  · skip
    refine y_aload_n (q := 11) rfl rfl rfl ?_
    refine y_getR (b := 57) (q := 14) rfl rfl (by decide) atC0 rfl rfl ?_
    refine y_aload_n (q := 15) rfl rfl rfl ?_
    refine y_getR (b := 43) (q := 18) rfl rfl (by decide) atC0 rfl rfl ?_
    refine y_callV (I := .invokevirtual 186) (idx := 186) (KD := 1) (J := 38) (mj := mj28) (as := [.ref 57, .ref 43]) (r := []) (q := 21) rfl (fun _ _ _ _ _ _ => rfl) rfl (by decide) rfl rfl rfl rfl rfl (Nat.le_of_ble_eq_true rfl) (d_recv (shS zS57) (by decide) (by decide)) rfl (m_X3_become (Nat.le_trans (by decide) hd) 57 zS57 43 zS43 h) (fun g4 => ?_)
    refine y_aload_n (q := 22) rfl rfl rfl ?_
    refine y_getR (b := 57) (q := 25) rfl rfl (by decide) atC0 rfl rfl ?_
    refine y_callP (I := .invokevirtual 166) (idx := 166) (KD := 1) (J := 43) (mj := mj33) (as := [.ref 57]) (r := []) (q := 28) rfl (fun _ _ _ _ _ _ => rfl) rfl (by decide) rfl rfl rfl rfl rfl (Nat.le_of_ble_eq_true rfl) (d_recv (shS zS57) (by decide) (by decide)) rfl (m_X3_friends (Nat.le_trans (by decide) hd) 57 zS57 g4) (fun r5 => ?_)
    refine y_istore_n (lo' := [some (.ref 0), some (.int v1), some (.int r5), none]) (q := 29) rfl (Nat.le_of_ble_eq_true rfl) rfl rfl ?_
    refine y_iconst (x := 0) (q := 30) rfl (by decide) rfl ?_
    refine y_istore_n (lo' := [some (.ref 0), some (.int v1), some (.int r5), some (.int 0)]) (q := 31) rfl (Nat.le_of_ble_eq_true rfl) rfl rfl ?_
    refine lz_X6_takes_31 hd v1  _ (fun v2_12 v3_13 g14 => ?_) fuel0 r5 0 g4 
    refine y_iload_n (q := 58) rfl rfl rfl ?_
    refine y_iload_n (q := 59) rfl rfl rfl ?_
    refine y_lt (q := 66) (q' := 62) rfl rfl rfl rfl rfl (fun c15 => ?_) (fun c16 => ?_)
    · skip
      refine y_iconst (x := (-1)) (q := 67) rfl (by decide) rfl ?_
      exact y_retI rfl (by decide) rfl rfl
    · skip
      refine y_iload_n (q := 63) rfl rfl rfl ?_
      refine y_goto (q := 67) rfl rfl ?_
      exact y_retI rfl (by decide) rfl rfl
def l_X6_best_34 (v1 : Int32) (v2 : Int32) (k : Int32 → Int32 → dH → Option (Int32 × dH)) : Nat → Int32 → Int32 → Int32 → dH → Option (Int32 × dH)
  | 0, _, _, _, _ => none
  | n + 1, v4, v5, v6, h => if v6.toInt < 4 then (oV (f_X3_become 57 43 h) (fun g12 => if 0 ≤ v1.toInt ∧ v1.toInt < 8 then (oH (dU g12 (57 + 3) (v1.toInt.toNat) v6) (fun g13 => oI (f_X3_pass 57 v2 g13) (fun r15 g16 => if v5.toInt < r15.toInt then (l_X6_best_34 v1 v2 k n v6 r15 (v6 + 1) g16) else (l_X6_best_34 v1 v2 k n v4 v5 (v6 + 1) g16)))) else none)) else (k v4 v5 h)
theorem lz_X6_best_34 {d : Nat} (hd : 5 ≤ d) (v1 : Int32) (v2 : Int32) (v3 : Int32) (k : Int32 → Int32 → dH → Option (Int32 × dH)) (hk : ∀ (v4 : Int32) (v5 : Int32) (w6 : Int32) (z7 : Option Value) (h : dH), dY shC d mj80 dI (k v4 v5 h) 93 [some (.ref 0), some (.int v1), some (.int v2), some (.int v3), some (.int v4), some (.int v5), some (.int w6), z7] [] h) : ∀ (n : Nat) (v4 : Int32) (v5 : Int32) (v6 : Int32) (h : dH) (z7 : Option Value), dY shC d mj80 dI (l_X6_best_34 v1 v2 k n v4 v5 v6 h) 34 [some (.ref 0), some (.int v1), some (.int v2), some (.int v3), some (.int v4), some (.int v5), some (.int v6), z7] [] h
  | 0, _, _, _, _, _ => dY_none
  | n + 1, v4, v5, v6, h, z7 => by
    rw [l_X6_best_34]
    refine y_iload (q := 36) rfl rfl rfl ?_
    refine y_iconst (x := 4) (q := 37) rfl (by decide) rfl ?_
    refine y_ge (q := 93) (q' := 40) rfl rfl (by decide) rfl rfl (fun c10 => ?_) (fun c11 => ?_)
    · skip
      refine y_aload_n (q := 41) rfl rfl rfl ?_
      refine y_getR (b := 57) (q := 44) rfl rfl (by decide) atC0 rfl rfl ?_
      refine y_aload_n (q := 45) rfl rfl rfl ?_
      refine y_getR (b := 43) (q := 48) rfl rfl (by decide) atC0 rfl rfl ?_
      refine y_callV (I := .invokevirtual 186) (idx := 186) (KD := 1) (J := 38) (mj := mj28) (as := [.ref 57, .ref 43]) (r := []) (q := 51) rfl (fun _ _ _ _ _ _ => rfl) rfl (by decide) rfl rfl rfl rfl rfl (Nat.le_of_ble_eq_true rfl) (d_recv (shS zS57) (by decide) (by decide)) rfl (m_X3_become (Nat.le_trans (by decide) hd) 57 zS57 43 zS43 h) (fun g12 => ?_)
      refine y_aload_n (q := 52) rfl rfl rfl ?_
      refine y_getR (b := 57) (q := 55) rfl rfl (by decide) atC0 rfl rfl ?_
      refine y_getR (b := (57 + 3)) (q := 58) rfl rfl (by decide) (shS zS57) rfl rfl ?_
      refine y_iload_n (q := 59) rfl rfl rfl ?_
      refine y_iload (q := 61) rfl rfl rfl ?_
      refine y_guard (fun c14 => ?_)
      refine y_iast (n := 8) (N := 8) (X := v1.toInt) (K := v1.toInt.toNat) (q := 62) rfl (shS3 zS57) rfl rfl c14 rfl rfl (fun g13 => ?_)
      refine y_aload_n (q := 63) rfl rfl rfl ?_
      refine y_getR (b := 57) (q := 66) rfl rfl (by decide) atC0 rfl rfl ?_
      refine y_iload_n (q := 67) rfl rfl rfl ?_
      refine y_callI (I := .invokevirtual 189) (idx := 189) (KD := 1) (J := 53) (mj := mj43) (as := [.ref 57, .int v2]) (r := []) (q := 70) rfl (fun _ _ _ _ _ _ => rfl) rfl (by decide) rfl rfl rfl rfl rfl (Nat.le_of_ble_eq_true rfl) (d_recv (shS zS57) (by decide) (by decide)) rfl (m_X3_pass (Nat.le_trans (by decide) hd) 57 zS57 v2 g13) (fun r15 g16 => ?_)
      refine y_istore (lo' := [some (.ref 0), some (.int v1), some (.int v2), some (.int v3), some (.int v4), some (.int v5), some (.int v6), some (.int r15)]) (q := 72) rfl (Nat.le_of_ble_eq_true rfl) rfl rfl ?_
      refine y_iload (q := 74) rfl rfl rfl ?_
      refine y_iload (q := 76) rfl rfl rfl ?_
      refine y_le (q := 87) (q' := 79) rfl rfl rfl rfl rfl (fun c17 => ?_) (fun c18 => ?_)
      · skip
        refine y_iload (q := 81) rfl rfl rfl ?_
        refine y_istore (lo' := [some (.ref 0), some (.int v1), some (.int v2), some (.int v3), some (.int v4), some (.int r15), some (.int v6), some (.int r15)]) (q := 83) rfl (Nat.le_of_ble_eq_true rfl) rfl rfl ?_
        refine y_iload (q := 85) rfl rfl rfl ?_
        refine y_istore (lo' := [some (.ref 0), some (.int v1), some (.int v2), some (.int v3), some (.int v6), some (.int r15), some (.int v6), some (.int r15)]) (q := 87) rfl (Nat.le_of_ble_eq_true rfl) rfl rfl ?_
        refine y_iinc (z := (v6 + 1)) (lo' := [some (.ref 0), some (.int v1), some (.int v2), some (.int v3), some (.int v6), some (.int r15), some (.int (v6 + 1)), some (.int r15)]) (q := 90) rfl rfl (Nat.le_of_ble_eq_true rfl) (by rw [oi_1]) rfl rfl ?_
        refine y_goto (q := 34) rfl rfl ?_
        exact lz_X6_best_34 hd v1 v2 v3 k hk n v6 r15 (v6 + 1) g16 (some (.int r15))
      · skip
        refine y_iinc (z := (v6 + 1)) (lo' := [some (.ref 0), some (.int v1), some (.int v2), some (.int v3), some (.int v4), some (.int v5), some (.int (v6 + 1)), some (.int r15)]) (q := 90) rfl rfl (Nat.le_of_ble_eq_true rfl) (by rw [oi_1]) rfl rfl ?_
        refine y_goto (q := 34) rfl rfl ?_
        exact lz_X6_best_34 hd v1 v2 v3 k hk n v4 v5 (v6 + 1) g16 (some (.int r15))
    · skip
      exact hk v4 v5 v6 (z7) h
def f_X6_best (v1 : Int32) (v2 : Int32) (v3 : Int32) (h : dH) : Option (Int32 × dH) := oP (f_X6_isHouse v1 h) (fun r1 => if r1.toInt = 0 then (some ((-2), h)) else (oP (f_X6_isYears v2) (fun r4 => if r4.toInt = 0 then (some ((-2), h)) else (oP (f_X6_isEither v3) (fun r7 => if r7.toInt = 0 then (some ((-2), h)) else (l_X6_best_34 v1 v2  (fun v4_19 v5_20 g23 => if v3.toInt = 0 then (some (v4_19, g23)) else (some (v5_20, g23))) fuel0 (-1) (-1) 0 h))))))
theorem m_X6_best {d : Nat} (hd : 6 ≤ d) (v1 : Int32) (v2 : Int32) (v3 : Int32) (h : dH) : dX shC d 80 [.ref 0, .int v1, .int v2, .int v3] dI (f_X6_best v1 v2 v3 h) h := by
  obtain ⟨e, rfl⟩ : ∃ e, d = e + 1 := ⟨d - 1, by omega⟩
  have hd : 5 ≤ e := by omega
  refine dX_of (mj := mj80) (lo := [some (.ref 0), some (.int v1), some (.int v2), some (.int v3), none, none, none, none]) rfl (Nat.le_of_ble_eq_true rfl) rfl ?_
  unfold f_X6_best
  refine y_aload_n (q := 1) rfl rfl rfl ?_
  refine y_iload_n (q := 2) rfl rfl rfl ?_
  refine y_callP (I := .invokevirtual 90) (idx := 90) (KD := 1) (J := 107) (mj := mj97) (as := [.ref 0, .int v1]) (r := []) (q := 5) rfl (fun _ _ _ _ _ _ => rfl) rfl (by decide) rfl rfl rfl rfl rfl (Nat.le_of_ble_eq_true rfl) (d_recv atC0 (by decide) (by decide)) rfl (m_X6_isHouse (Nat.le_trans (by decide) hd) v1 h) (fun r1 => ?_)
  refine y_eq0 (q := 22) (q' := 8) rfl rfl rfl rfl (fun c2 => ?_) (fun c3 => ?_)
  · skip
    refine y_bipush (x := (-2)) (q := 24) rfl (by decide) rfl ?_
    exact y_retI rfl (by decide) rfl rfl
  · skip
    refine y_iload_n (q := 9) rfl rfl rfl ?_
    refine y_callP (I := .invokestatic 183) (idx := 183) (KD := 0) (J := 111) (mj := mj101) (as := [.int v2]) (r := []) (q := 12) rfl (fun _ _ _ _ _ _ => rfl) rfl (by decide) rfl rfl rfl rfl rfl (Nat.le_of_ble_eq_true rfl) rfl rfl (m_X6_isYears (Nat.le_trans (by decide) hd) v2 h) (fun r4 => ?_)
    refine y_eq0 (q := 22) (q' := 15) rfl rfl rfl rfl (fun c5 => ?_) (fun c6 => ?_)
    · skip
      refine y_bipush (x := (-2)) (q := 24) rfl (by decide) rfl ?_
      exact y_retI rfl (by decide) rfl rfl
    · skip
      refine y_iload_n (q := 16) rfl rfl rfl ?_
      refine y_callP (I := .invokestatic 154) (idx := 154) (KD := 0) (J := 113) (mj := mj103) (as := [.int v3]) (r := []) (q := 19) rfl (fun _ _ _ _ _ _ => rfl) rfl (by decide) rfl rfl rfl rfl rfl (Nat.le_of_ble_eq_true rfl) rfl rfl (m_X6_isEither (Nat.le_trans (by decide) hd) v3 h) (fun r7 => ?_)
      refine y_ne0 (q := 25) (q' := 22) rfl rfl rfl rfl (fun c8 => ?_) (fun c9 => ?_)
      · skip
        refine y_bipush (x := (-2)) (q := 24) rfl (by decide) rfl ?_
        exact y_retI rfl (by decide) rfl rfl
      · skip
        refine y_iconst (x := (-1)) (q := 26) rfl (by decide) rfl ?_
        refine y_istore (lo' := [some (.ref 0), some (.int v1), some (.int v2), some (.int v3), some (.int (-1)), none, none, none]) (q := 28) rfl (Nat.le_of_ble_eq_true rfl) rfl rfl ?_
        refine y_iconst (x := (-1)) (q := 29) rfl (by decide) rfl ?_
        refine y_istore (lo' := [some (.ref 0), some (.int v1), some (.int v2), some (.int v3), some (.int (-1)), some (.int (-1)), none, none]) (q := 31) rfl (Nat.le_of_ble_eq_true rfl) rfl rfl ?_
        refine y_iconst (x := 0) (q := 32) rfl (by decide) rfl ?_
        refine y_istore (lo' := [some (.ref 0), some (.int v1), some (.int v2), some (.int v3), some (.int (-1)), some (.int (-1)), some (.int 0), none]) (q := 34) rfl (Nat.le_of_ble_eq_true rfl) rfl rfl ?_
        refine lz_X6_best_34 hd v1 v2 v3  _ (fun v4_19 v5_20 z21 z22 g23 => ?_) fuel0 (-1) (-1) 0 h (none)
        refine y_iload_n (q := 94) rfl rfl rfl ?_
        refine y_ne0 (q := 102) (q' := 97) rfl rfl rfl rfl (fun c24 => ?_) (fun c25 => ?_)
        · skip
          refine y_iload (q := 99) rfl rfl rfl ?_
          refine y_goto (q := 104) rfl rfl ?_
          exact y_retI rfl (by decide) rfl rfl
        · skip
          refine y_iload (q := 104) rfl rfl rfl ?_
          exact y_retI rfl (by decide) rfl rfl
def f_X6_canChange (v1 : Int32) (v2 : Int32) (h : dH) : Option (Int32) := if 0 ≤ v1.toInt ∧ v1.toInt < 8 then (if 0 ≤ v2.toInt ∧ v2.toInt < 8 then (if (h (43 + 3) (v1.toInt.toNat)).toInt = (-1) then ((some 0)) else (if (h (43 + 3) (v2.toInt.toNat)).toInt = (-1) then ((some 0)) else (if (h (43 + 3) (v1.toInt.toNat)).toInt = (h (43 + 3) (v2.toInt.toNat)).toInt then ((some 0)) else ((some 1))))) else none) else none
theorem m_X6_canChange {d : Nat} (hd : 1 ≤ d) (v1 : Int32) (v2 : Int32) (h : dH) : dX shC d 108 [.ref 0, .int v1, .int v2] (dP h) (f_X6_canChange v1 v2 h) h := by
  obtain ⟨e, rfl⟩ : ∃ e, d = e + 1 := ⟨d - 1, by omega⟩
  have hd : 0 ≤ e := by omega
  refine dX_of (mj := mj108) (lo := [some (.ref 0), some (.int v1), some (.int v2), none, none]) rfl (Nat.le_of_ble_eq_true rfl) rfl ?_
  unfold f_X6_canChange
  refine y_aload_n (q := 1) rfl rfl rfl ?_
  refine y_getR (b := 43) (q := 4) rfl rfl (by decide) atC0 rfl rfl ?_
  refine y_getR (b := (43 + 3)) (q := 7) rfl rfl (by decide) (shS zS43) rfl rfl ?_
  refine y_iload_n (q := 8) rfl rfl rfl ?_
  refine y_guard (fun c1 => ?_)
  refine y_iald (n := 8) (N := 8) (X := v1.toInt) (K := v1.toInt.toNat) (q := 9) hbC rfl (shS3 zS43) rfl rfl c1 rfl rfl ?_
  refine y_istore_n (lo' := [some (.ref 0), some (.int v1), some (.int v2), some (.int (h (43 + 3) (v1.toInt.toNat))), none]) (q := 10) rfl (Nat.le_of_ble_eq_true rfl) rfl rfl ?_
  refine y_aload_n (q := 11) rfl rfl rfl ?_
  refine y_getR (b := 43) (q := 14) rfl rfl (by decide) atC0 rfl rfl ?_
  refine y_getR (b := (43 + 3)) (q := 17) rfl rfl (by decide) (shS zS43) rfl rfl ?_
  refine y_iload_n (q := 18) rfl rfl rfl ?_
  refine y_guard (fun c2 => ?_)
  refine y_iald (n := 8) (N := 8) (X := v2.toInt) (K := v2.toInt.toNat) (q := 19) hbC rfl (shS3 zS43) rfl rfl c2 rfl rfl ?_
  refine y_istore (lo' := [some (.ref 0), some (.int v1), some (.int v2), some (.int (h (43 + 3) (v1.toInt.toNat))), some (.int (h (43 + 3) (v2.toInt.toNat)))]) (q := 21) rfl (Nat.le_of_ble_eq_true rfl) rfl rfl ?_
  refine y_iload_n (q := 22) rfl rfl rfl ?_
  refine y_iconst (x := (-1)) (q := 23) rfl (by decide) rfl ?_
  refine y_eq (q := 42) (q' := 26) rfl rfl (by decide) rfl rfl (fun c3 => ?_) (fun c4 => ?_)
  · skip
    refine y_iconst (x := 0) (q := 43) rfl (by decide) rfl ?_
    exact y_retP rfl (by decide) rfl rfl
  · skip
    refine y_iload (q := 28) rfl rfl rfl ?_
    refine y_iconst (x := (-1)) (q := 29) rfl (by decide) rfl ?_
    refine y_eq (q := 42) (q' := 32) rfl rfl (by decide) rfl rfl (fun c5 => ?_) (fun c6 => ?_)
    · skip
      refine y_iconst (x := 0) (q := 43) rfl (by decide) rfl ?_
      exact y_retP rfl (by decide) rfl rfl
    · skip
      refine y_iload_n (q := 33) rfl rfl rfl ?_
      refine y_iload (q := 35) rfl rfl rfl ?_
      refine y_eq (q := 42) (q' := 38) rfl rfl rfl rfl rfl (fun c7 => ?_) (fun c8 => ?_)
      · skip
        refine y_iconst (x := 0) (q := 43) rfl (by decide) rfl ?_
        exact y_retP rfl (by decide) rfl rfl
      · skip
        refine y_iconst (x := 1) (q := 39) rfl (by decide) rfl ?_
        refine y_goto (q := 43) rfl rfl ?_
        exact y_retP rfl (by decide) rfl rfl
def l_X6_change_61 (v1 : Int32) (v5 : Int32) (k : Int32 → Int32 → dH → Option (Int32 × dH)) : Nat → Int32 → Int32 → Int32 → dH → Option (Int32 × dH)
  | 0, _, _, _, _ => none
  | n + 1, v3, v4, v6, h => if v6.toInt < (h 43 2).toInt then (oP (f_X6_canChange v5 v6 h) (fun r14 => if r14.toInt = 0 then (l_X6_change_61 v1 v5 k n v3 v4 (v6 + 1) h) else (oV (f_X3_become 57 43 h) (fun g17 => if 0 ≤ v6.toInt ∧ v6.toInt < 8 then (if 0 ≤ v5.toInt ∧ v5.toInt < 8 then (oH (dU g17 (57 + 3) (v5.toInt.toNat) (g17 (43 + 3) (v6.toInt.toNat))) (fun g19 => if 0 ≤ v5.toInt ∧ v5.toInt < 8 then (if 0 ≤ v6.toInt ∧ v6.toInt < 8 then (oH (dU g19 (57 + 3) (v6.toInt.toNat) (g19 (43 + 3) (v5.toInt.toNat))) (fun g22 => oI (f_X3_pass 57 v1 g22) (fun r24 g25 => if v4.toInt < r24.toInt then (l_X6_change_61 v1 v5 k n ((10 * v5) + v6) r24 (v6 + 1) g25) else (l_X6_change_61 v1 v5 k n v3 v4 (v6 + 1) g25)))) else none) else none)) else none) else none)))) else (k v3 v4 h)
theorem lz_X6_change_61 {d : Nat} (hd : 5 ≤ d) (v1 : Int32) (v2 : Int32) (v5 : Int32) (k : Int32 → Int32 → dH → Option (Int32 × dH)) (hk : ∀ (v3 : Int32) (v4 : Int32) (w6 : Int32) (z7 : Option Value) (h : dH), dY shC d mj81 dI (k v3 v4 h) 174 [some (.ref 0), some (.int v1), some (.int v2), some (.int v3), some (.int v4), some (.int v5), some (.int w6), z7] [] h) : ∀ (n : Nat) (v3 : Int32) (v4 : Int32) (v6 : Int32) (h : dH) (z7 : Option Value), dY shC d mj81 dI (l_X6_change_61 v1 v5 k n v3 v4 v6 h) 61 [some (.ref 0), some (.int v1), some (.int v2), some (.int v3), some (.int v4), some (.int v5), some (.int v6), z7] [] h
  | 0, _, _, _, _, _ => dY_none
  | n + 1, v3, v4, v6, h, z7 => by
    rw [l_X6_change_61]
    refine y_iload (q := 63) rfl rfl rfl ?_
    refine y_aload_n (q := 64) rfl rfl rfl ?_
    refine y_getR (b := 43) (q := 67) rfl rfl (by decide) atC0 rfl rfl ?_
    refine y_getI (q := 70) rfl rfl (by decide) (shS zS43) rfl rfl ?_
    refine y_ge (q := 174) (q' := 73) rfl rfl rfl rfl rfl (fun c12 => ?_) (fun c13 => ?_)
    · skip
      refine y_aload_n (q := 74) rfl rfl rfl ?_
      refine y_iload (q := 76) rfl rfl rfl ?_
      refine y_iload (q := 78) rfl rfl rfl ?_
      refine y_callP (I := .invokevirtual 198) (idx := 198) (KD := 1) (J := 118) (mj := mj108) (as := [.ref 0, .int v5, .int v6]) (r := []) (q := 81) rfl (fun _ _ _ _ _ _ => rfl) rfl (by decide) rfl rfl rfl rfl rfl (Nat.le_of_ble_eq_true rfl) (d_recv atC0 (by decide) (by decide)) rfl (m_X6_canChange (Nat.le_trans (by decide) hd) v5 v6 h) (fun r14 => ?_)
      refine y_ne0 (q := 87) (q' := 84) rfl rfl rfl rfl (fun c15 => ?_) (fun c16 => ?_)
      · skip
        refine y_goto (q := 168) rfl rfl ?_
        refine y_iinc (z := (v6 + 1)) (lo' := [some (.ref 0), some (.int v1), some (.int v2), some (.int v3), some (.int v4), some (.int v5), some (.int (v6 + 1)), z7]) (q := 171) rfl rfl (Nat.le_of_ble_eq_true rfl) (by rw [oi_1]) rfl rfl ?_
        refine y_goto (q := 61) rfl rfl ?_
        exact lz_X6_change_61 hd v1 v2 v5 k hk n v3 v4 (v6 + 1) h (z7)
      · skip
        refine y_aload_n (q := 88) rfl rfl rfl ?_
        refine y_getR (b := 57) (q := 91) rfl rfl (by decide) atC0 rfl rfl ?_
        refine y_aload_n (q := 92) rfl rfl rfl ?_
        refine y_getR (b := 43) (q := 95) rfl rfl (by decide) atC0 rfl rfl ?_
        refine y_callV (I := .invokevirtual 186) (idx := 186) (KD := 1) (J := 38) (mj := mj28) (as := [.ref 57, .ref 43]) (r := []) (q := 98) rfl (fun _ _ _ _ _ _ => rfl) rfl (by decide) rfl rfl rfl rfl rfl (Nat.le_of_ble_eq_true rfl) (d_recv (shS zS57) (by decide) (by decide)) rfl (m_X3_become (Nat.le_trans (by decide) hd) 57 zS57 43 zS43 h) (fun g17 => ?_)
        refine y_aload_n (q := 99) rfl rfl rfl ?_
        refine y_getR (b := 57) (q := 102) rfl rfl (by decide) atC0 rfl rfl ?_
        refine y_getR (b := (57 + 3)) (q := 105) rfl rfl (by decide) (shS zS57) rfl rfl ?_
        refine y_iload (q := 107) rfl rfl rfl ?_
        refine y_aload_n (q := 108) rfl rfl rfl ?_
        refine y_getR (b := 43) (q := 111) rfl rfl (by decide) atC0 rfl rfl ?_
        refine y_getR (b := (43 + 3)) (q := 114) rfl rfl (by decide) (shS zS43) rfl rfl ?_
        refine y_iload (q := 116) rfl rfl rfl ?_
        refine y_guard (fun c18 => ?_)
        refine y_iald (n := 8) (N := 8) (X := v6.toInt) (K := v6.toInt.toNat) (q := 117) hbC rfl (shS3 zS43) rfl rfl c18 rfl rfl ?_
        refine y_guard (fun c20 => ?_)
        refine y_iast (n := 8) (N := 8) (X := v5.toInt) (K := v5.toInt.toNat) (q := 118) rfl (shS3 zS57) rfl rfl c20 rfl rfl (fun g19 => ?_)
        refine y_aload_n (q := 119) rfl rfl rfl ?_
        refine y_getR (b := 57) (q := 122) rfl rfl (by decide) atC0 rfl rfl ?_
        refine y_getR (b := (57 + 3)) (q := 125) rfl rfl (by decide) (shS zS57) rfl rfl ?_
        refine y_iload (q := 127) rfl rfl rfl ?_
        refine y_aload_n (q := 128) rfl rfl rfl ?_
        refine y_getR (b := 43) (q := 131) rfl rfl (by decide) atC0 rfl rfl ?_
        refine y_getR (b := (43 + 3)) (q := 134) rfl rfl (by decide) (shS zS43) rfl rfl ?_
        refine y_iload (q := 136) rfl rfl rfl ?_
        refine y_guard (fun c21 => ?_)
        refine y_iald (n := 8) (N := 8) (X := v5.toInt) (K := v5.toInt.toNat) (q := 137) hbC rfl (shS3 zS43) rfl rfl c21 rfl rfl ?_
        refine y_guard (fun c23 => ?_)
        refine y_iast (n := 8) (N := 8) (X := v6.toInt) (K := v6.toInt.toNat) (q := 138) rfl (shS3 zS57) rfl rfl c23 rfl rfl (fun g22 => ?_)
        refine y_aload_n (q := 139) rfl rfl rfl ?_
        refine y_getR (b := 57) (q := 142) rfl rfl (by decide) atC0 rfl rfl ?_
        refine y_iload_n (q := 143) rfl rfl rfl ?_
        refine y_callI (I := .invokevirtual 189) (idx := 189) (KD := 1) (J := 53) (mj := mj43) (as := [.ref 57, .int v1]) (r := []) (q := 146) rfl (fun _ _ _ _ _ _ => rfl) rfl (by decide) rfl rfl rfl rfl rfl (Nat.le_of_ble_eq_true rfl) (d_recv (shS zS57) (by decide) (by decide)) rfl (m_X3_pass (Nat.le_trans (by decide) hd) 57 zS57 v1 g22) (fun r24 g25 => ?_)
        refine y_istore (lo' := [some (.ref 0), some (.int v1), some (.int v2), some (.int v3), some (.int v4), some (.int v5), some (.int v6), some (.int r24)]) (q := 148) rfl (Nat.le_of_ble_eq_true rfl) rfl rfl ?_
        refine y_iload (q := 150) rfl rfl rfl ?_
        refine y_iload (q := 152) rfl rfl rfl ?_
        refine y_le (q := 168) (q' := 155) rfl rfl rfl rfl rfl (fun c26 => ?_) (fun c27 => ?_)
        · skip
          refine y_iload (q := 157) rfl rfl rfl ?_
          refine y_istore (lo' := [some (.ref 0), some (.int v1), some (.int v2), some (.int v3), some (.int r24), some (.int v5), some (.int v6), some (.int r24)]) (q := 159) rfl (Nat.le_of_ble_eq_true rfl) rfl rfl ?_
          refine y_bipush (x := 10) (q := 161) rfl (by decide) rfl ?_
          refine y_iload (q := 163) rfl rfl rfl ?_
          refine y_imul (q := 164) rfl rfl ?_
          refine y_iload (q := 166) rfl rfl rfl ?_
          refine y_iadd (q := 167) rfl rfl ?_
          refine y_istore_n (lo' := [some (.ref 0), some (.int v1), some (.int v2), some (.int ((10 * v5) + v6)), some (.int r24), some (.int v5), some (.int v6), some (.int r24)]) (q := 168) rfl (Nat.le_of_ble_eq_true rfl) rfl rfl ?_
          refine y_iinc (z := (v6 + 1)) (lo' := [some (.ref 0), some (.int v1), some (.int v2), some (.int ((10 * v5) + v6)), some (.int r24), some (.int v5), some (.int (v6 + 1)), some (.int r24)]) (q := 171) rfl rfl (Nat.le_of_ble_eq_true rfl) (by rw [oi_1]) rfl rfl ?_
          refine y_goto (q := 61) rfl rfl ?_
          exact lz_X6_change_61 hd v1 v2 v5 k hk n ((10 * v5) + v6) r24 (v6 + 1) g25 (some (.int r24))
        · skip
          refine y_iinc (z := (v6 + 1)) (lo' := [some (.ref 0), some (.int v1), some (.int v2), some (.int v3), some (.int v4), some (.int v5), some (.int (v6 + 1)), some (.int r24)]) (q := 171) rfl rfl (Nat.le_of_ble_eq_true rfl) (by rw [oi_1]) rfl rfl ?_
          refine y_goto (q := 61) rfl rfl ?_
          exact lz_X6_change_61 hd v1 v2 v5 k hk n v3 v4 (v6 + 1) g25 (some (.int r24))
    · skip
      exact hk v3 v4 v6 (z7) h
def l_X6_change_43 (v1 : Int32) (k : Int32 → Int32 → dH → Option (Int32 × dH)) : Nat → Int32 → Int32 → Int32 → dH → Option (Int32 × dH)
  | 0, _, _, _, _ => none
  | n + 1, v3, v4, v5, h => if v5.toInt < (h 43 2).toInt then (l_X6_change_61 v1 v5  (fun v3_28 v4_29 g32 => l_X6_change_43 v1 k n v3_28 v4_29 (v5 + 1) g32) fuel0 v3 v4 (v5 + 1) h) else (k v3 v4 h)
theorem lz_X6_change_43 {d : Nat} (hd : 5 ≤ d) (v1 : Int32) (v2 : Int32) (k : Int32 → Int32 → dH → Option (Int32 × dH)) (hk : ∀ (v3 : Int32) (v4 : Int32) (w5 : Int32) (z6 : Option Value) (z7 : Option Value) (h : dH), dY shC d mj81 dI (k v3 v4 h) 180 [some (.ref 0), some (.int v1), some (.int v2), some (.int v3), some (.int v4), some (.int w5), z6, z7] [] h) : ∀ (n : Nat) (v3 : Int32) (v4 : Int32) (v5 : Int32) (h : dH) (z6 : Option Value) (z7 : Option Value), dY shC d mj81 dI (l_X6_change_43 v1 k n v3 v4 v5 h) 43 [some (.ref 0), some (.int v1), some (.int v2), some (.int v3), some (.int v4), some (.int v5), z6, z7] [] h
  | 0, _, _, _, _, _, _ => dY_none
  | n + 1, v3, v4, v5, h, z6, z7 => by
    rw [l_X6_change_43]
    refine y_iload (q := 45) rfl rfl rfl ?_
    refine y_aload_n (q := 46) rfl rfl rfl ?_
    refine y_getR (b := 43) (q := 49) rfl rfl (by decide) atC0 rfl rfl ?_
    refine y_getI (q := 52) rfl rfl (by decide) (shS zS43) rfl rfl ?_
    refine y_ge (q := 180) (q' := 55) rfl rfl rfl rfl rfl (fun c10 => ?_) (fun c11 => ?_)
    · skip
      refine y_iload (q := 57) rfl rfl rfl ?_
      refine y_iconst (x := 1) (q := 58) rfl (by decide) rfl ?_
      refine y_iadd (q := 59) rfl rfl ?_
      refine y_istore (lo' := [some (.ref 0), some (.int v1), some (.int v2), some (.int v3), some (.int v4), some (.int v5), some (.int (v5 + 1)), z7]) (q := 61) rfl (Nat.le_of_ble_eq_true rfl) rfl rfl ?_
      refine lz_X6_change_61 hd v1 v2 v5  _ (fun v3_28 v4_29 z30 z31 g32 => ?_) fuel0 v3 v4 (v5 + 1) h (z7)
      refine y_iinc (z := (v5 + 1)) (lo' := [some (.ref 0), some (.int v1), some (.int v2), some (.int v3_28), some (.int v4_29), some (.int (v5 + 1)), some (.int z30), z31]) (q := 177) rfl rfl (Nat.le_of_ble_eq_true rfl) (by rw [oi_1]) rfl rfl ?_
      refine y_goto (q := 43) rfl rfl ?_
      exact lz_X6_change_43 hd v1 v2 k hk n v3_28 v4_29 (v5 + 1) g32 (some (.int z30)) (z31)
    · skip
      exact hk v3 v4 v5 (z6) (z7) h
def f_X6_change (v1 : Int32) (v2 : Int32) (h : dH) : Option (Int32 × dH) := oP (f_X6_isYears v1) (fun r1 => if r1.toInt = 0 then (some ((-2), h)) else (oP (f_X6_isEither v2) (fun r4 => if r4.toInt = 0 then (some ((-2), h)) else (oV (f_X3_become 57 43 h) (fun g7 => oI (f_X3_pass 57 v1 g7) (fun r8 g9 => l_X6_change_43 v1  (fun v3_33 v4_34 g38 => if v2.toInt = 0 then (some (v3_33, g38)) else (some (v4_34, g38))) fuel0 (-1) r8 0 g9))))))
theorem m_X6_change {d : Nat} (hd : 6 ≤ d) (v1 : Int32) (v2 : Int32) (h : dH) : dX shC d 81 [.ref 0, .int v1, .int v2] dI (f_X6_change v1 v2 h) h := by
  obtain ⟨e, rfl⟩ : ∃ e, d = e + 1 := ⟨d - 1, by omega⟩
  have hd : 5 ≤ e := by omega
  refine dX_of (mj := mj81) (lo := [some (.ref 0), some (.int v1), some (.int v2), none, none, none, none, none]) rfl (Nat.le_of_ble_eq_true rfl) rfl ?_
  unfold f_X6_change
  refine y_iload_n (q := 1) rfl rfl rfl ?_
  refine y_callP (I := .invokestatic 183) (idx := 183) (KD := 0) (J := 111) (mj := mj101) (as := [.int v1]) (r := []) (q := 4) rfl (fun _ _ _ _ _ _ => rfl) rfl (by decide) rfl rfl rfl rfl rfl (Nat.le_of_ble_eq_true rfl) rfl rfl (m_X6_isYears (Nat.le_trans (by decide) hd) v1 h) (fun r1 => ?_)
  refine y_eq0 (q := 14) (q' := 7) rfl rfl rfl rfl (fun c2 => ?_) (fun c3 => ?_)
  · skip
    refine y_bipush (x := (-2)) (q := 16) rfl (by decide) rfl ?_
    exact y_retI rfl (by decide) rfl rfl
  · skip
    refine y_iload_n (q := 8) rfl rfl rfl ?_
    refine y_callP (I := .invokestatic 154) (idx := 154) (KD := 0) (J := 113) (mj := mj103) (as := [.int v2]) (r := []) (q := 11) rfl (fun _ _ _ _ _ _ => rfl) rfl (by decide) rfl rfl rfl rfl rfl (Nat.le_of_ble_eq_true rfl) rfl rfl (m_X6_isEither (Nat.le_trans (by decide) hd) v2 h) (fun r4 => ?_)
    refine y_ne0 (q := 17) (q' := 14) rfl rfl rfl rfl (fun c5 => ?_) (fun c6 => ?_)
    · skip
      refine y_bipush (x := (-2)) (q := 16) rfl (by decide) rfl ?_
      exact y_retI rfl (by decide) rfl rfl
    · skip
      refine y_aload_n (q := 18) rfl rfl rfl ?_
      refine y_getR (b := 57) (q := 21) rfl rfl (by decide) atC0 rfl rfl ?_
      refine y_aload_n (q := 22) rfl rfl rfl ?_
      refine y_getR (b := 43) (q := 25) rfl rfl (by decide) atC0 rfl rfl ?_
      refine y_callV (I := .invokevirtual 186) (idx := 186) (KD := 1) (J := 38) (mj := mj28) (as := [.ref 57, .ref 43]) (r := []) (q := 28) rfl (fun _ _ _ _ _ _ => rfl) rfl (by decide) rfl rfl rfl rfl rfl (Nat.le_of_ble_eq_true rfl) (d_recv (shS zS57) (by decide) (by decide)) rfl (m_X3_become (Nat.le_trans (by decide) hd) 57 zS57 43 zS43 h) (fun g7 => ?_)
      refine y_iconst (x := (-1)) (q := 29) rfl (by decide) rfl ?_
      refine y_istore_n (lo' := [some (.ref 0), some (.int v1), some (.int v2), some (.int (-1)), none, none, none, none]) (q := 30) rfl (Nat.le_of_ble_eq_true rfl) rfl rfl ?_
      refine y_aload_n (q := 31) rfl rfl rfl ?_
      refine y_getR (b := 57) (q := 34) rfl rfl (by decide) atC0 rfl rfl ?_
      refine y_iload_n (q := 35) rfl rfl rfl ?_
      refine y_callI (I := .invokevirtual 189) (idx := 189) (KD := 1) (J := 53) (mj := mj43) (as := [.ref 57, .int v1]) (r := []) (q := 38) rfl (fun _ _ _ _ _ _ => rfl) rfl (by decide) rfl rfl rfl rfl rfl (Nat.le_of_ble_eq_true rfl) (d_recv (shS zS57) (by decide) (by decide)) rfl (m_X3_pass (Nat.le_trans (by decide) hd) 57 zS57 v1 g7) (fun r8 g9 => ?_)
      refine y_istore (lo' := [some (.ref 0), some (.int v1), some (.int v2), some (.int (-1)), some (.int r8), none, none, none]) (q := 40) rfl (Nat.le_of_ble_eq_true rfl) rfl rfl ?_
      refine y_iconst (x := 0) (q := 41) rfl (by decide) rfl ?_
      refine y_istore (lo' := [some (.ref 0), some (.int v1), some (.int v2), some (.int (-1)), some (.int r8), some (.int 0), none, none]) (q := 43) rfl (Nat.le_of_ble_eq_true rfl) rfl rfl ?_
      refine lz_X6_change_43 hd v1 v2  _ (fun v3_33 v4_34 z35 z36 z37 g38 => ?_) fuel0 (-1) r8 0 g9 (none) (none)
      refine y_iload_n (q := 181) rfl rfl rfl ?_
      refine y_ne0 (q := 188) (q' := 184) rfl rfl rfl rfl (fun c39 => ?_) (fun c40 => ?_)
      · skip
        refine y_iload_n (q := 185) rfl rfl rfl ?_
        refine y_goto (q := 190) rfl rfl ?_
        exact y_retI rfl (by decide) rfl rfl
      · skip
        refine y_iload (q := 190) rfl rfl rfl ?_
        exact y_retI rfl (by decide) rfl rfl
def l_X6_split_75 (v6 : Int32) (k : dH → Option (Int32 × dH)) : Nat → Int32 → dH → Option (Int32 × dH)
  | 0, _, _ => none
  | n + 1, v7, h => if v7.toInt < (h 43 2).toInt then (if 0 ≤ v7.toInt ∧ v7.toInt < 8 then (oH (dU h (57 + 3) (v7.toInt.toNat) ((dshr v6 v7) &&& 1)) (fun g15 => l_X6_split_75 v6 k n (v7 + 1) g15)) else none) else (k  h)
theorem lz_X6_split_75 {d : Nat} (hd : 5 ≤ d) (v1 : Int32) (v2 : Int32) (v3 : Int32) (v4 : Int32) (v5 : Int32) (v6 : Int32) (k : dH → Option (Int32 × dH)) (hk : ∀ (w7 : Int32) (h : dH), dY shC d mj82 dI (k h) 110 [some (.ref 0), some (.int v1), some (.int v2), some (.int v3), some (.int v4), some (.int v5), some (.int v6), some (.int w7)] [] h) : ∀ (n : Nat) (v7 : Int32) (h : dH), dY shC d mj82 dI (l_X6_split_75 v6 k n v7 h) 75 [some (.ref 0), some (.int v1), some (.int v2), some (.int v3), some (.int v4), some (.int v5), some (.int v6), some (.int v7)] [] h
  | 0, _, _ => dY_none
  | n + 1, v7, h => by
    rw [l_X6_split_75]
    refine y_iload (q := 77) rfl rfl rfl ?_
    refine y_aload_n (q := 78) rfl rfl rfl ?_
    refine y_getR (b := 43) (q := 81) rfl rfl (by decide) atC0 rfl rfl ?_
    refine y_getI (q := 84) rfl rfl (by decide) (shS zS43) rfl rfl ?_
    refine y_ge (q := 110) (q' := 87) rfl rfl rfl rfl rfl (fun c13 => ?_) (fun c14 => ?_)
    · skip
      refine y_aload_n (q := 88) rfl rfl rfl ?_
      refine y_getR (b := 57) (q := 91) rfl rfl (by decide) atC0 rfl rfl ?_
      refine y_getR (b := (57 + 3)) (q := 94) rfl rfl (by decide) (shS zS57) rfl rfl ?_
      refine y_iload (q := 96) rfl rfl rfl ?_
      refine y_iload (q := 98) rfl rfl rfl ?_
      refine y_iload (q := 100) rfl rfl rfl ?_
      refine y_ishr (q := 101) rfl rfl ?_
      refine y_iconst (x := 1) (q := 102) rfl (by decide) rfl ?_
      refine y_iand (q := 103) rfl rfl ?_
      refine y_guard (fun c16 => ?_)
      refine y_iast (n := 8) (N := 8) (X := v7.toInt) (K := v7.toInt.toNat) (q := 104) rfl (shS3 zS57) rfl rfl c16 rfl rfl (fun g15 => ?_)
      refine y_iinc (z := (v7 + 1)) (lo' := [some (.ref 0), some (.int v1), some (.int v2), some (.int v3), some (.int v4), some (.int v5), some (.int v6), some (.int (v7 + 1))]) (q := 107) rfl rfl (Nat.le_of_ble_eq_true rfl) (by rw [oi_1]) rfl rfl ?_
      refine y_goto (q := 75) rfl rfl ?_
      exact lz_X6_split_75 hd v1 v2 v3 v4 v5 v6 k hk n (v7 + 1) g15 
    · skip
      exact hk  v7 h
def l_X6_split_54 (v1 : Int32) (v5 : Int32) (k : Int32 → Int32 → dH → Option (Int32 × dH)) : Nat → Int32 → Int32 → Int32 → dH → Option (Int32 × dH)
  | 0, _, _, _, _ => none
  | n + 1, v3, v4, v6, h => if v6.toInt < v5.toInt then (oV (f_X3_become 57 43 h) (fun g12 => l_X6_split_75 v6  (fun g18 => oI (f_X3_pass 57 v1 g18) (fun r19 g20 => if v4.toInt < r19.toInt then (l_X6_split_54 v1 v5 k n v6 r19 (v6 + 1) g20) else (l_X6_split_54 v1 v5 k n v3 v4 (v6 + 1) g20))) fuel0 0 g12)) else (k v3 v4 h)
theorem lz_X6_split_54 {d : Nat} (hd : 5 ≤ d) (v1 : Int32) (v2 : Int32) (v5 : Int32) (k : Int32 → Int32 → dH → Option (Int32 × dH)) (hk : ∀ (v3 : Int32) (v4 : Int32) (w6 : Int32) (z7 : Option Value) (h : dH), dY shC d mj82 dI (k v3 v4 h) 140 [some (.ref 0), some (.int v1), some (.int v2), some (.int v3), some (.int v4), some (.int v5), some (.int w6), z7] [] h) : ∀ (n : Nat) (v3 : Int32) (v4 : Int32) (v6 : Int32) (h : dH) (z7 : Option Value), dY shC d mj82 dI (l_X6_split_54 v1 v5 k n v3 v4 v6 h) 54 [some (.ref 0), some (.int v1), some (.int v2), some (.int v3), some (.int v4), some (.int v5), some (.int v6), z7] [] h
  | 0, _, _, _, _, _ => dY_none
  | n + 1, v3, v4, v6, h, z7 => by
    rw [l_X6_split_54]
    refine y_iload (q := 56) rfl rfl rfl ?_
    refine y_iload (q := 58) rfl rfl rfl ?_
    refine y_ge (q := 140) (q' := 61) rfl rfl rfl rfl rfl (fun c10 => ?_) (fun c11 => ?_)
    · skip
      refine y_aload_n (q := 62) rfl rfl rfl ?_
      refine y_getR (b := 57) (q := 65) rfl rfl (by decide) atC0 rfl rfl ?_
      refine y_aload_n (q := 66) rfl rfl rfl ?_
      refine y_getR (b := 43) (q := 69) rfl rfl (by decide) atC0 rfl rfl ?_
      refine y_callV (I := .invokevirtual 186) (idx := 186) (KD := 1) (J := 38) (mj := mj28) (as := [.ref 57, .ref 43]) (r := []) (q := 72) rfl (fun _ _ _ _ _ _ => rfl) rfl (by decide) rfl rfl rfl rfl rfl (Nat.le_of_ble_eq_true rfl) (d_recv (shS zS57) (by decide) (by decide)) rfl (m_X3_become (Nat.le_trans (by decide) hd) 57 zS57 43 zS43 h) (fun g12 => ?_)
      refine y_iconst (x := 0) (q := 73) rfl (by decide) rfl ?_
      refine y_istore (lo' := [some (.ref 0), some (.int v1), some (.int v2), some (.int v3), some (.int v4), some (.int v5), some (.int v6), some (.int 0)]) (q := 75) rfl (Nat.le_of_ble_eq_true rfl) rfl rfl ?_
      refine lz_X6_split_75 hd v1 v2 v3 v4 v5 v6  _ (fun z17 g18 => ?_) fuel0 0 g12 
      refine y_aload_n (q := 111) rfl rfl rfl ?_
      refine y_getR (b := 57) (q := 114) rfl rfl (by decide) atC0 rfl rfl ?_
      refine y_iload_n (q := 115) rfl rfl rfl ?_
      refine y_callI (I := .invokevirtual 189) (idx := 189) (KD := 1) (J := 53) (mj := mj43) (as := [.ref 57, .int v1]) (r := []) (q := 118) rfl (fun _ _ _ _ _ _ => rfl) rfl (by decide) rfl rfl rfl rfl rfl (Nat.le_of_ble_eq_true rfl) (d_recv (shS zS57) (by decide) (by decide)) rfl (m_X3_pass (Nat.le_trans (by decide) hd) 57 zS57 v1 g18) (fun r19 g20 => ?_)
      refine y_istore (lo' := [some (.ref 0), some (.int v1), some (.int v2), some (.int v3), some (.int v4), some (.int v5), some (.int v6), some (.int r19)]) (q := 120) rfl (Nat.le_of_ble_eq_true rfl) rfl rfl ?_
      refine y_iload (q := 122) rfl rfl rfl ?_
      refine y_iload (q := 124) rfl rfl rfl ?_
      refine y_le (q := 134) (q' := 127) rfl rfl rfl rfl rfl (fun c21 => ?_) (fun c22 => ?_)
      · skip
        refine y_iload (q := 129) rfl rfl rfl ?_
        refine y_istore (lo' := [some (.ref 0), some (.int v1), some (.int v2), some (.int v3), some (.int r19), some (.int v5), some (.int v6), some (.int r19)]) (q := 131) rfl (Nat.le_of_ble_eq_true rfl) rfl rfl ?_
        refine y_iload (q := 133) rfl rfl rfl ?_
        refine y_istore_n (lo' := [some (.ref 0), some (.int v1), some (.int v2), some (.int v6), some (.int r19), some (.int v5), some (.int v6), some (.int r19)]) (q := 134) rfl (Nat.le_of_ble_eq_true rfl) rfl rfl ?_
        refine y_iinc (z := (v6 + 1)) (lo' := [some (.ref 0), some (.int v1), some (.int v2), some (.int v6), some (.int r19), some (.int v5), some (.int (v6 + 1)), some (.int r19)]) (q := 137) rfl rfl (Nat.le_of_ble_eq_true rfl) (by rw [oi_1]) rfl rfl ?_
        refine y_goto (q := 54) rfl rfl ?_
        exact lz_X6_split_54 hd v1 v2 v5 k hk n v6 r19 (v6 + 1) g20 (some (.int r19))
      · skip
        refine y_iinc (z := (v6 + 1)) (lo' := [some (.ref 0), some (.int v1), some (.int v2), some (.int v3), some (.int v4), some (.int v5), some (.int (v6 + 1)), some (.int r19)]) (q := 137) rfl rfl (Nat.le_of_ble_eq_true rfl) (by rw [oi_1]) rfl rfl ?_
        refine y_goto (q := 54) rfl rfl ?_
        exact lz_X6_split_54 hd v1 v2 v5 k hk n v3 v4 (v6 + 1) g20 (some (.int r19))
    · skip
      exact hk v3 v4 v6 (z7) h
def f_X6_split (v1 : Int32) (v2 : Int32) (h : dH) : Option (Int32 × dH) := if v1.toInt < 0 then (some ((-2), h)) else (if 2 < v1.toInt then (some ((-2), h)) else (oP (f_X6_isEither v2) (fun r5 => if r5.toInt = 0 then (some ((-2), h)) else (if 0 < (h 43 2).toInt then (l_X6_split_54 v1 (dshl 1 ((h 43 2) - 1))  (fun v3_23 v4_24 g27 => if v2.toInt = 0 then (some (v3_23, g27)) else (some (v4_24, g27))) fuel0 0 (-1) 0 h) else (l_X6_split_54 v1 1  (fun v3_30 v4_31 g34 => if v2.toInt = 0 then (some (v3_30, g34)) else (some (v4_31, g34))) fuel0 0 (-1) 0 h)))))
theorem m_X6_split {d : Nat} (hd : 6 ≤ d) (v1 : Int32) (v2 : Int32) (h : dH) : dX shC d 82 [.ref 0, .int v1, .int v2] dI (f_X6_split v1 v2 h) h := by
  obtain ⟨e, rfl⟩ : ∃ e, d = e + 1 := ⟨d - 1, by omega⟩
  have hd : 5 ≤ e := by omega
  refine dX_of (mj := mj82) (lo := [some (.ref 0), some (.int v1), some (.int v2), none, none, none, none, none]) rfl (Nat.le_of_ble_eq_true rfl) rfl ?_
  unfold f_X6_split
  refine y_iload_n (q := 1) rfl rfl rfl ?_
  refine y_lt0 (q := 16) (q' := 4) rfl rfl rfl rfl (fun c1 => ?_) (fun c2 => ?_)
  · skip
    refine y_bipush (x := (-2)) (q := 18) rfl (by decide) rfl ?_
    exact y_retI rfl (by decide) rfl rfl
  · skip
    refine y_iload_n (q := 5) rfl rfl rfl ?_
    refine y_iconst (x := 2) (q := 6) rfl (by decide) rfl ?_
    refine y_gt (q := 16) (q' := 9) rfl rfl (by decide) rfl rfl (fun c3 => ?_) (fun c4 => ?_)
    · skip
      refine y_bipush (x := (-2)) (q := 18) rfl (by decide) rfl ?_
      exact y_retI rfl (by decide) rfl rfl
    · skip
      refine y_iload_n (q := 10) rfl rfl rfl ?_
      refine y_callP (I := .invokestatic 154) (idx := 154) (KD := 0) (J := 113) (mj := mj103) (as := [.int v2]) (r := []) (q := 13) rfl (fun _ _ _ _ _ _ => rfl) rfl (by decide) rfl rfl rfl rfl rfl (Nat.le_of_ble_eq_true rfl) rfl rfl (m_X6_isEither (Nat.le_trans (by decide) hd) v2 h) (fun r5 => ?_)
      refine y_ne0 (q := 19) (q' := 16) rfl rfl rfl rfl (fun c6 => ?_) (fun c7 => ?_)
      · skip
        refine y_bipush (x := (-2)) (q := 18) rfl (by decide) rfl ?_
        exact y_retI rfl (by decide) rfl rfl
      · skip
        refine y_iconst (x := 0) (q := 20) rfl (by decide) rfl ?_
        refine y_istore_n (lo' := [some (.ref 0), some (.int v1), some (.int v2), some (.int 0), none, none, none, none]) (q := 21) rfl (Nat.le_of_ble_eq_true rfl) rfl rfl ?_
        refine y_iconst (x := (-1)) (q := 22) rfl (by decide) rfl ?_
        refine y_istore (lo' := [some (.ref 0), some (.int v1), some (.int v2), some (.int 0), some (.int (-1)), none, none, none]) (q := 24) rfl (Nat.le_of_ble_eq_true rfl) rfl rfl ?_
        refine y_aload_n (q := 25) rfl rfl rfl ?_
        refine y_getR (b := 43) (q := 28) rfl rfl (by decide) atC0 rfl rfl ?_
        refine y_getI (q := 31) rfl rfl (by decide) (shS zS43) rfl rfl ?_
        refine y_le0 (q := 48) (q' := 34) rfl rfl rfl rfl (fun c8 => ?_) (fun c9 => ?_)
        · skip
          refine y_iconst (x := 1) (q := 35) rfl (by decide) rfl ?_
          refine y_aload_n (q := 36) rfl rfl rfl ?_
          refine y_getR (b := 43) (q := 39) rfl rfl (by decide) atC0 rfl rfl ?_
          refine y_getI (q := 42) rfl rfl (by decide) (shS zS43) rfl rfl ?_
          refine y_iconst (x := 1) (q := 43) rfl (by decide) rfl ?_
          refine y_isub (q := 44) rfl rfl ?_
          refine y_ishl (q := 45) rfl rfl ?_
          refine y_goto (q := 49) rfl rfl ?_
          refine y_istore (lo' := [some (.ref 0), some (.int v1), some (.int v2), some (.int 0), some (.int (-1)), some (.int (dshl 1 ((h 43 2) - 1))), none, none]) (q := 51) rfl (Nat.le_of_ble_eq_true rfl) rfl rfl ?_
          refine y_iconst (x := 0) (q := 52) rfl (by decide) rfl ?_
          refine y_istore (lo' := [some (.ref 0), some (.int v1), some (.int v2), some (.int 0), some (.int (-1)), some (.int (dshl 1 ((h 43 2) - 1))), some (.int 0), none]) (q := 54) rfl (Nat.le_of_ble_eq_true rfl) rfl rfl ?_
          refine lz_X6_split_54 hd v1 v2 (dshl 1 ((h 43 2) - 1))  _ (fun v3_23 v4_24 z25 z26 g27 => ?_) fuel0 0 (-1) 0 h (none)
          refine y_iload_n (q := 141) rfl rfl rfl ?_
          refine y_ne0 (q := 148) (q' := 144) rfl rfl rfl rfl (fun c28 => ?_) (fun c29 => ?_)
          · skip
            refine y_iload_n (q := 145) rfl rfl rfl ?_
            refine y_goto (q := 150) rfl rfl ?_
            exact y_retI rfl (by decide) rfl rfl
          · skip
            refine y_iload (q := 150) rfl rfl rfl ?_
            exact y_retI rfl (by decide) rfl rfl
        · skip
          refine y_iconst (x := 1) (q := 49) rfl (by decide) rfl ?_
          refine y_istore (lo' := [some (.ref 0), some (.int v1), some (.int v2), some (.int 0), some (.int (-1)), some (.int 1), none, none]) (q := 51) rfl (Nat.le_of_ble_eq_true rfl) rfl rfl ?_
          refine y_iconst (x := 0) (q := 52) rfl (by decide) rfl ?_
          refine y_istore (lo' := [some (.ref 0), some (.int v1), some (.int v2), some (.int 0), some (.int (-1)), some (.int 1), some (.int 0), none]) (q := 54) rfl (Nat.le_of_ble_eq_true rfl) rfl rfl ?_
          refine lz_X6_split_54 hd v1 v2 1  _ (fun v3_30 v4_31 z32 z33 g34 => ?_) fuel0 0 (-1) 0 h (none)
          refine y_iload_n (q := 141) rfl rfl rfl ?_
          refine y_ne0 (q := 148) (q' := 144) rfl rfl rfl rfl (fun c35 => ?_) (fun c36 => ?_)
          · skip
            refine y_iload_n (q := 145) rfl rfl rfl ?_
            refine y_goto (q := 150) rfl rfl ?_
            exact y_retI rfl (by decide) rfl rfl
          · skip
            refine y_iload (q := 150) rfl rfl rfl ?_
            exact y_retI rfl (by decide) rfl rfl
end
end

section
/-! X6_missed, X6_match, X6_isSheet, X6_fits, X6_leastLimit, X6_limits, X6_otherwise, X6_choices, X6_suppose, X6_possible, X6_tells, X6_film, X6_friendsDrawn, X6_drawn, X6_commonDivisor, X6_chance, X6_image, X6_back, X6_count, X6_isSort, X6_sheet, X6_cell, X6_copy, X6_houses (by program) -/
noncomputable section
def l_X6_missed_28  (h : dH) (k : Int32 → Int32 → Option (Int32 × dH)) : Nat → Int32 → Int32 → Int32 → Option (Int32 × dH)
  | 0, _, _, _ => none
  | n + 1, v2, v3, v4 => if v4.toInt < (h 43 2).toInt then (oP (f_X0_everyone  h) (fun r7 => oP (f_X0_companies (r7 &&& ((dshl 1 v4) ^^^ (-1))) h) (fun r8 => if v3.toInt < r8.toInt then (l_X6_missed_28  h k n v4 r8 (v4 + 1) ) else (l_X6_missed_28  h k n v2 v3 (v4 + 1) )))) else (k v2 v3 )
theorem lz_X6_missed_28 {d : Nat} (hd : 3 ≤ d) (v1 : Int32) (h : dH) (k : Int32 → Int32 → Option (Int32 × dH)) (hk : ∀ (v2 : Int32) (v3 : Int32) (w4 : Int32) (z5 : Option Value), dY shC d mj83 dI (k v2 v3) 81 [some (.ref 0), some (.int v1), some (.int v2), some (.int v3), some (.int w4), z5] [] h) : ∀ (n : Nat) (v2 : Int32) (v3 : Int32) (v4 : Int32) (z5 : Option Value), dY shC d mj83 dI (l_X6_missed_28  h k n v2 v3 v4) 28 [some (.ref 0), some (.int v1), some (.int v2), some (.int v3), some (.int v4), z5] [] h
  | 0, _, _, _, _ => dY_none
  | n + 1, v2, v3, v4, z5 => by
    rw [l_X6_missed_28]
    refine y_iload (q := 30) rfl rfl rfl ?_
    refine y_aload_n (q := 31) rfl rfl rfl ?_
    refine y_getR (b := 43) (q := 34) rfl rfl (by decide) atC0 rfl rfl ?_
    refine y_getI (q := 37) rfl rfl (by decide) (shS zS43) rfl rfl ?_
    refine y_ge (q := 81) (q' := 40) rfl rfl rfl rfl rfl (fun c5 => ?_) (fun c6 => ?_)
    · skip
      refine y_aload_n (q := 41) rfl rfl rfl ?_
      refine y_getR (b := 7) (q := 44) rfl rfl (by decide) atC0 rfl rfl ?_
      refine y_aload_n (q := 45) rfl rfl rfl ?_
      refine y_getR (b := 7) (q := 48) rfl rfl (by decide) atC0 rfl rfl ?_
      refine y_callP (I := .invokevirtual 201) (idx := 201) (KD := 1) (J := 12) (mj := mj2) (as := [.ref 7]) (r := [.ref 7]) (q := 51) rfl (fun _ _ _ _ _ _ => rfl) rfl (by decide) rfl rfl rfl rfl rfl (Nat.le_of_ble_eq_true rfl) (d_recv atC7 (by decide) (by decide)) rfl (m_X0_everyone (Nat.le_trans (by decide) hd)  h) (fun r7 => ?_)
      refine y_iconst (x := 1) (q := 52) rfl (by decide) rfl ?_
      refine y_iload (q := 54) rfl rfl rfl ?_
      refine y_ishl (q := 55) rfl rfl ?_
      refine y_iconst (x := (-1)) (q := 56) rfl (by decide) rfl ?_
      refine y_ixor (q := 57) rfl rfl ?_
      refine y_iand (q := 58) rfl rfl ?_
      refine y_callP (I := .invokevirtual 204) (idx := 204) (KD := 1) (J := 14) (mj := mj4) (as := [.ref 7, .int (r7 &&& ((dshl 1 v4) ^^^ (-1)))]) (r := []) (q := 61) rfl (fun _ _ _ _ _ _ => rfl) rfl (by decide) rfl rfl rfl rfl rfl (Nat.le_of_ble_eq_true rfl) (d_recv atC7 (by decide) (by decide)) rfl (m_X0_companies (Nat.le_trans (by decide) hd) (r7 &&& ((dshl 1 v4) ^^^ (-1))) h) (fun r8 => ?_)
      refine y_istore (lo' := [some (.ref 0), some (.int v1), some (.int v2), some (.int v3), some (.int v4), some (.int r8)]) (q := 63) rfl (Nat.le_of_ble_eq_true rfl) rfl rfl ?_
      refine y_iload (q := 65) rfl rfl rfl ?_
      refine y_iload_n (q := 66) rfl rfl rfl ?_
      refine y_le (q := 75) (q' := 69) rfl rfl rfl rfl rfl (fun c9 => ?_) (fun c10 => ?_)
      · skip
        refine y_iload (q := 71) rfl rfl rfl ?_
        refine y_istore_n (lo' := [some (.ref 0), some (.int v1), some (.int v2), some (.int r8), some (.int v4), some (.int r8)]) (q := 72) rfl (Nat.le_of_ble_eq_true rfl) rfl rfl ?_
        refine y_iload (q := 74) rfl rfl rfl ?_
        refine y_istore_n (lo' := [some (.ref 0), some (.int v1), some (.int v4), some (.int r8), some (.int v4), some (.int r8)]) (q := 75) rfl (Nat.le_of_ble_eq_true rfl) rfl rfl ?_
        refine y_iinc (z := (v4 + 1)) (lo' := [some (.ref 0), some (.int v1), some (.int v4), some (.int r8), some (.int (v4 + 1)), some (.int r8)]) (q := 78) rfl rfl (Nat.le_of_ble_eq_true rfl) (by rw [oi_1]) rfl rfl ?_
        refine y_goto (q := 28) rfl rfl ?_
        exact lz_X6_missed_28 hd v1 h k hk n v4 r8 (v4 + 1)  (some (.int r8))
      · skip
        refine y_iinc (z := (v4 + 1)) (lo' := [some (.ref 0), some (.int v1), some (.int v2), some (.int v3), some (.int (v4 + 1)), some (.int r8)]) (q := 78) rfl rfl (Nat.le_of_ble_eq_true rfl) (by rw [oi_1]) rfl rfl ?_
        refine y_goto (q := 28) rfl rfl ?_
        exact lz_X6_missed_28 hd v1 h k hk n v2 v3 (v4 + 1)  (some (.int r8))
    · skip
      exact hk v2 v3 v4 (z5) 
def f_X6_missed (v1 : Int32) (h : dH) : Option (Int32 × dH) := oP (f_X6_isEither v1) (fun r1 => if r1.toInt = 0 then (some ((-2), h)) else (oV (f_X0_see 43 h) (fun g4 => l_X6_missed_28  g4 (fun v2_11 v3_12 => if v1.toInt = 0 then (some (v2_11, g4)) else (some (v3_12, g4))) fuel0 (-1) (-1) 0 )))
theorem m_X6_missed {d : Nat} (hd : 4 ≤ d) (v1 : Int32) (h : dH) : dX shC d 83 [.ref 0, .int v1] dI (f_X6_missed v1 h) h := by
  obtain ⟨e, rfl⟩ : ∃ e, d = e + 1 := ⟨d - 1, by omega⟩
  have hd : 3 ≤ e := by omega
  refine dX_of (mj := mj83) (lo := [some (.ref 0), some (.int v1), none, none, none, none]) rfl (Nat.le_of_ble_eq_true rfl) rfl ?_
  unfold f_X6_missed
  refine y_iload_n (q := 1) rfl rfl rfl ?_
  refine y_callP (I := .invokestatic 154) (idx := 154) (KD := 0) (J := 113) (mj := mj103) (as := [.int v1]) (r := []) (q := 4) rfl (fun _ _ _ _ _ _ => rfl) rfl (by decide) rfl rfl rfl rfl rfl (Nat.le_of_ble_eq_true rfl) rfl rfl (m_X6_isEither (Nat.le_trans (by decide) hd) v1 h) (fun r1 => ?_)
  refine y_ne0 (q := 10) (q' := 7) rfl rfl rfl rfl (fun c2 => ?_) (fun c3 => ?_)
  · skip
    refine y_bipush (x := (-2)) (q := 9) rfl (by decide) rfl ?_
    exact y_retI rfl (by decide) rfl rfl
  · skip
    refine y_aload_n (q := 11) rfl rfl rfl ?_
    refine y_getR (b := 7) (q := 14) rfl rfl (by decide) atC0 rfl rfl ?_
    refine y_aload_n (q := 15) rfl rfl rfl ?_
    refine y_getR (b := 43) (q := 18) rfl rfl (by decide) atC0 rfl rfl ?_
    refine y_callV (I := .invokevirtual 176) (idx := 176) (KD := 1) (J := 11) (mj := mj1) (as := [.ref 7, .ref 43]) (r := []) (q := 21) rfl (fun _ _ _ _ _ _ => rfl) rfl (by decide) rfl rfl rfl rfl rfl (Nat.le_of_ble_eq_true rfl) (d_recv atC7 (by decide) (by decide)) rfl (m_X0_see (Nat.le_trans (by decide) hd) 43 zS43 h) (fun g4 => ?_)
    refine y_iconst (x := (-1)) (q := 22) rfl (by decide) rfl ?_
    refine y_istore_n (lo' := [some (.ref 0), some (.int v1), some (.int (-1)), none, none, none]) (q := 23) rfl (Nat.le_of_ble_eq_true rfl) rfl rfl ?_
    refine y_iconst (x := (-1)) (q := 24) rfl (by decide) rfl ?_
    refine y_istore_n (lo' := [some (.ref 0), some (.int v1), some (.int (-1)), some (.int (-1)), none, none]) (q := 25) rfl (Nat.le_of_ble_eq_true rfl) rfl rfl ?_
    refine y_iconst (x := 0) (q := 26) rfl (by decide) rfl ?_
    refine y_istore (lo' := [some (.ref 0), some (.int v1), some (.int (-1)), some (.int (-1)), some (.int 0), none]) (q := 28) rfl (Nat.le_of_ble_eq_true rfl) rfl rfl ?_
    refine lz_X6_missed_28 hd v1 g4 _ (fun v2_11 v3_12 z13 z14 => ?_) fuel0 (-1) (-1) 0  (none)
    refine y_iload_n (q := 82) rfl rfl rfl ?_
    refine y_ne0 (q := 89) (q' := 85) rfl rfl rfl rfl (fun c15 => ?_) (fun c16 => ?_)
    · skip
      refine y_iload_n (q := 86) rfl rfl rfl ?_
      refine y_goto (q := 90) rfl rfl ?_
      exact y_retI rfl (by decide) rfl rfl
    · skip
      refine y_iload_n (q := 90) rfl rfl rfl ?_
      exact y_retI rfl (by decide) rfl rfl
def l_X6_match_54 (v4 : Int32) (k : Int32 → Int32 → dH → Option (Int32 × dH)) : Nat → Int32 → Int32 → Int32 → dH → Option (Int32 × dH)
  | 0, _, _, _, _ => none
  | n + 1, v2, v3, v5, h => if v5.toInt < (h 43 2).toInt then (oP (f_X3_knows 43 v4 v5 h) (fun r10 => if r10.toInt = 0 then (oV (f_X0_turn v4 v5 h) (fun g13 => oP (f_X0_longestWay 9 g13) (fun r14 => oV (f_X0_turn v4 v5 g13) (fun g15 => if r14.toInt < v3.toInt then (l_X6_match_54 v4 k n ((10 * v4) + v5) r14 (v5 + 1) g15) else (l_X6_match_54 v4 k n v2 v3 (v5 + 1) g15))))) else (l_X6_match_54 v4 k n v2 v3 (v5 + 1) h))) else (k v2 v3 h)
theorem lz_X6_match_54 {d : Nat} (hd : 3 ≤ d) (v1 : Int32) (v4 : Int32) (k : Int32 → Int32 → dH → Option (Int32 × dH)) (hk : ∀ (v2 : Int32) (v3 : Int32) (w5 : Int32) (z6 : Option Value) (h : dH), dY shC d mj84 dI (k v2 v3 h) 140 [some (.ref 0), some (.int v1), some (.int v2), some (.int v3), some (.int v4), some (.int w5), z6] [] h) : ∀ (n : Nat) (v2 : Int32) (v3 : Int32) (v5 : Int32) (h : dH) (z6 : Option Value), dY shC d mj84 dI (l_X6_match_54 v4 k n v2 v3 v5 h) 54 [some (.ref 0), some (.int v1), some (.int v2), some (.int v3), some (.int v4), some (.int v5), z6] [] h
  | 0, _, _, _, _, _ => dY_none
  | n + 1, v2, v3, v5, h, z6 => by
    rw [l_X6_match_54]
    refine y_iload (q := 56) rfl rfl rfl ?_
    refine y_aload_n (q := 57) rfl rfl rfl ?_
    refine y_getR (b := 43) (q := 60) rfl rfl (by decide) atC0 rfl rfl ?_
    refine y_getI (q := 63) rfl rfl (by decide) (shS zS43) rfl rfl ?_
    refine y_ge (q := 140) (q' := 66) rfl rfl rfl rfl rfl (fun c8 => ?_) (fun c9 => ?_)
    · skip
      refine y_aload_n (q := 67) rfl rfl rfl ?_
      refine y_getR (b := 43) (q := 70) rfl rfl (by decide) atC0 rfl rfl ?_
      refine y_iload (q := 72) rfl rfl rfl ?_
      refine y_iload (q := 74) rfl rfl rfl ?_
      refine y_callP (I := .invokevirtual 210) (idx := 210) (KD := 1) (J := 41) (mj := mj31) (as := [.ref 43, .int v4, .int v5]) (r := []) (q := 77) rfl (fun _ _ _ _ _ _ => rfl) rfl (by decide) rfl rfl rfl rfl rfl (Nat.le_of_ble_eq_true rfl) (d_recv (shS zS43) (by decide) (by decide)) rfl (m_X3_knows (Nat.le_trans (by decide) hd) 43 zS43 v4 v5 h) (fun r10 => ?_)
      refine y_eq0 (q := 83) (q' := 80) rfl rfl rfl rfl (fun c11 => ?_) (fun c12 => ?_)
      · skip
        refine y_aload_n (q := 84) rfl rfl rfl ?_
        refine y_getR (b := 7) (q := 87) rfl rfl (by decide) atC0 rfl rfl ?_
        refine y_iload (q := 89) rfl rfl rfl ?_
        refine y_iload (q := 91) rfl rfl rfl ?_
        refine y_callV (I := .invokevirtual 213) (idx := 213) (KD := 1) (J := 13) (mj := mj3) (as := [.ref 7, .int v4, .int v5]) (r := []) (q := 94) rfl (fun _ _ _ _ _ _ => rfl) rfl (by decide) rfl rfl rfl rfl rfl (Nat.le_of_ble_eq_true rfl) (d_recv atC7 (by decide) (by decide)) rfl (m_X0_turn (Nat.le_trans (by decide) hd) v4 v5 h) (fun g13 => ?_)
        refine y_aload_n (q := 95) rfl rfl rfl ?_
        refine y_getR (b := 7) (q := 98) rfl rfl (by decide) atC0 rfl rfl ?_
        refine y_bipush (x := 9) (q := 100) rfl (by decide) rfl ?_
        refine y_callP (I := .invokevirtual 207) (idx := 207) (KD := 1) (J := 17) (mj := mj7) (as := [.ref 7, .int 9]) (r := []) (q := 103) rfl (fun _ _ _ _ _ _ => rfl) rfl (by decide) rfl rfl rfl rfl rfl (Nat.le_of_ble_eq_true rfl) (d_recv atC7 (by decide) (by decide)) rfl (m_X0_longestWay (Nat.le_trans (by decide) hd) 9 g13) (fun r14 => ?_)
        refine y_istore (lo' := [some (.ref 0), some (.int v1), some (.int v2), some (.int v3), some (.int v4), some (.int v5), some (.int r14)]) (q := 105) rfl (Nat.le_of_ble_eq_true rfl) rfl rfl ?_
        refine y_aload_n (q := 106) rfl rfl rfl ?_
        refine y_getR (b := 7) (q := 109) rfl rfl (by decide) atC0 rfl rfl ?_
        refine y_iload (q := 111) rfl rfl rfl ?_
        refine y_iload (q := 113) rfl rfl rfl ?_
        refine y_callV (I := .invokevirtual 213) (idx := 213) (KD := 1) (J := 13) (mj := mj3) (as := [.ref 7, .int v4, .int v5]) (r := []) (q := 116) rfl (fun _ _ _ _ _ _ => rfl) rfl (by decide) rfl rfl rfl rfl rfl (Nat.le_of_ble_eq_true rfl) (d_recv atC7 (by decide) (by decide)) rfl (m_X0_turn (Nat.le_trans (by decide) hd) v4 v5 g13) (fun g15 => ?_)
        refine y_iload (q := 118) rfl rfl rfl ?_
        refine y_iload_n (q := 119) rfl rfl rfl ?_
        refine y_ge (q := 134) (q' := 122) rfl rfl rfl rfl rfl (fun c16 => ?_) (fun c17 => ?_)
        · skip
          refine y_iload (q := 124) rfl rfl rfl ?_
          refine y_istore_n (lo' := [some (.ref 0), some (.int v1), some (.int v2), some (.int r14), some (.int v4), some (.int v5), some (.int r14)]) (q := 125) rfl (Nat.le_of_ble_eq_true rfl) rfl rfl ?_
          refine y_bipush (x := 10) (q := 127) rfl (by decide) rfl ?_
          refine y_iload (q := 129) rfl rfl rfl ?_
          refine y_imul (q := 130) rfl rfl ?_
          refine y_iload (q := 132) rfl rfl rfl ?_
          refine y_iadd (q := 133) rfl rfl ?_
          refine y_istore_n (lo' := [some (.ref 0), some (.int v1), some (.int ((10 * v4) + v5)), some (.int r14), some (.int v4), some (.int v5), some (.int r14)]) (q := 134) rfl (Nat.le_of_ble_eq_true rfl) rfl rfl ?_
          refine y_iinc (z := (v5 + 1)) (lo' := [some (.ref 0), some (.int v1), some (.int ((10 * v4) + v5)), some (.int r14), some (.int v4), some (.int (v5 + 1)), some (.int r14)]) (q := 137) rfl rfl (Nat.le_of_ble_eq_true rfl) (by rw [oi_1]) rfl rfl ?_
          refine y_goto (q := 54) rfl rfl ?_
          exact lz_X6_match_54 hd v1 v4 k hk n ((10 * v4) + v5) r14 (v5 + 1) g15 (some (.int r14))
        · skip
          refine y_iinc (z := (v5 + 1)) (lo' := [some (.ref 0), some (.int v1), some (.int v2), some (.int v3), some (.int v4), some (.int (v5 + 1)), some (.int r14)]) (q := 137) rfl rfl (Nat.le_of_ble_eq_true rfl) (by rw [oi_1]) rfl rfl ?_
          refine y_goto (q := 54) rfl rfl ?_
          exact lz_X6_match_54 hd v1 v4 k hk n v2 v3 (v5 + 1) g15 (some (.int r14))
      · skip
        refine y_goto (q := 134) rfl rfl ?_
        refine y_iinc (z := (v5 + 1)) (lo' := [some (.ref 0), some (.int v1), some (.int v2), some (.int v3), some (.int v4), some (.int (v5 + 1)), z6]) (q := 137) rfl rfl (Nat.le_of_ble_eq_true rfl) (by rw [oi_1]) rfl rfl ?_
        refine y_goto (q := 54) rfl rfl ?_
        exact lz_X6_match_54 hd v1 v4 k hk n v2 v3 (v5 + 1) h (z6)
    · skip
      exact hk v2 v3 v5 (z6) h
def l_X6_match_36  (k : Int32 → Int32 → dH → Option (Int32 × dH)) : Nat → Int32 → Int32 → Int32 → dH → Option (Int32 × dH)
  | 0, _, _, _, _ => none
  | n + 1, v2, v3, v4, h => if v4.toInt < (h 43 2).toInt then (l_X6_match_54 v4  (fun v2_18 v3_19 g22 => l_X6_match_36  k n v2_18 v3_19 (v4 + 1) g22) fuel0 v2 v3 (v4 + 1) h) else (k v2 v3 h)
theorem lz_X6_match_36 {d : Nat} (hd : 3 ≤ d) (v1 : Int32) (k : Int32 → Int32 → dH → Option (Int32 × dH)) (hk : ∀ (v2 : Int32) (v3 : Int32) (w4 : Int32) (z5 : Option Value) (z6 : Option Value) (h : dH), dY shC d mj84 dI (k v2 v3 h) 146 [some (.ref 0), some (.int v1), some (.int v2), some (.int v3), some (.int w4), z5, z6] [] h) : ∀ (n : Nat) (v2 : Int32) (v3 : Int32) (v4 : Int32) (h : dH) (z5 : Option Value) (z6 : Option Value), dY shC d mj84 dI (l_X6_match_36  k n v2 v3 v4 h) 36 [some (.ref 0), some (.int v1), some (.int v2), some (.int v3), some (.int v4), z5, z6] [] h
  | 0, _, _, _, _, _, _ => dY_none
  | n + 1, v2, v3, v4, h, z5, z6 => by
    rw [l_X6_match_36]
    refine y_iload (q := 38) rfl rfl rfl ?_
    refine y_aload_n (q := 39) rfl rfl rfl ?_
    refine y_getR (b := 43) (q := 42) rfl rfl (by decide) atC0 rfl rfl ?_
    refine y_getI (q := 45) rfl rfl (by decide) (shS zS43) rfl rfl ?_
    refine y_ge (q := 146) (q' := 48) rfl rfl rfl rfl rfl (fun c6 => ?_) (fun c7 => ?_)
    · skip
      refine y_iload (q := 50) rfl rfl rfl ?_
      refine y_iconst (x := 1) (q := 51) rfl (by decide) rfl ?_
      refine y_iadd (q := 52) rfl rfl ?_
      refine y_istore (lo' := [some (.ref 0), some (.int v1), some (.int v2), some (.int v3), some (.int v4), some (.int (v4 + 1)), z6]) (q := 54) rfl (Nat.le_of_ble_eq_true rfl) rfl rfl ?_
      refine lz_X6_match_54 hd v1 v4  _ (fun v2_18 v3_19 z20 z21 g22 => ?_) fuel0 v2 v3 (v4 + 1) h (z6)
      refine y_iinc (z := (v4 + 1)) (lo' := [some (.ref 0), some (.int v1), some (.int v2_18), some (.int v3_19), some (.int (v4 + 1)), some (.int z20), z21]) (q := 143) rfl rfl (Nat.le_of_ble_eq_true rfl) (by rw [oi_1]) rfl rfl ?_
      refine y_goto (q := 36) rfl rfl ?_
      exact lz_X6_match_36 hd v1 k hk n v2_18 v3_19 (v4 + 1) g22 (some (.int z20)) (z21)
    · skip
      exact hk v2 v3 v4 (z5) (z6) h
def f_X6_match (v1 : Int32) (h : dH) : Option (Int32 × dH) := oP (f_X6_isEither v1) (fun r1 => if r1.toInt = 0 then (some ((-2), h)) else (oV (f_X0_see 43 h) (fun g4 => oP (f_X0_longestWay 9 g4) (fun r5 => l_X6_match_36   (fun v2_23 v3_24 g28 => if v1.toInt = 0 then (some (v2_23, g28)) else (some (v3_24, g28))) fuel0 (-1) r5 0 g4))))
theorem m_X6_match {d : Nat} (hd : 4 ≤ d) (v1 : Int32) (h : dH) : dX shC d 84 [.ref 0, .int v1] dI (f_X6_match v1 h) h := by
  obtain ⟨e, rfl⟩ : ∃ e, d = e + 1 := ⟨d - 1, by omega⟩
  have hd : 3 ≤ e := by omega
  refine dX_of (mj := mj84) (lo := [some (.ref 0), some (.int v1), none, none, none, none, none]) rfl (Nat.le_of_ble_eq_true rfl) rfl ?_
  unfold f_X6_match
  refine y_iload_n (q := 1) rfl rfl rfl ?_
  refine y_callP (I := .invokestatic 154) (idx := 154) (KD := 0) (J := 113) (mj := mj103) (as := [.int v1]) (r := []) (q := 4) rfl (fun _ _ _ _ _ _ => rfl) rfl (by decide) rfl rfl rfl rfl rfl (Nat.le_of_ble_eq_true rfl) rfl rfl (m_X6_isEither (Nat.le_trans (by decide) hd) v1 h) (fun r1 => ?_)
  refine y_ne0 (q := 10) (q' := 7) rfl rfl rfl rfl (fun c2 => ?_) (fun c3 => ?_)
  · skip
    refine y_bipush (x := (-2)) (q := 9) rfl (by decide) rfl ?_
    exact y_retI rfl (by decide) rfl rfl
  · skip
    refine y_aload_n (q := 11) rfl rfl rfl ?_
    refine y_getR (b := 7) (q := 14) rfl rfl (by decide) atC0 rfl rfl ?_
    refine y_aload_n (q := 15) rfl rfl rfl ?_
    refine y_getR (b := 43) (q := 18) rfl rfl (by decide) atC0 rfl rfl ?_
    refine y_callV (I := .invokevirtual 176) (idx := 176) (KD := 1) (J := 11) (mj := mj1) (as := [.ref 7, .ref 43]) (r := []) (q := 21) rfl (fun _ _ _ _ _ _ => rfl) rfl (by decide) rfl rfl rfl rfl rfl (Nat.le_of_ble_eq_true rfl) (d_recv atC7 (by decide) (by decide)) rfl (m_X0_see (Nat.le_trans (by decide) hd) 43 zS43 h) (fun g4 => ?_)
    refine y_iconst (x := (-1)) (q := 22) rfl (by decide) rfl ?_
    refine y_istore_n (lo' := [some (.ref 0), some (.int v1), some (.int (-1)), none, none, none, none]) (q := 23) rfl (Nat.le_of_ble_eq_true rfl) rfl rfl ?_
    refine y_aload_n (q := 24) rfl rfl rfl ?_
    refine y_getR (b := 7) (q := 27) rfl rfl (by decide) atC0 rfl rfl ?_
    refine y_bipush (x := 9) (q := 29) rfl (by decide) rfl ?_
    refine y_callP (I := .invokevirtual 207) (idx := 207) (KD := 1) (J := 17) (mj := mj7) (as := [.ref 7, .int 9]) (r := []) (q := 32) rfl (fun _ _ _ _ _ _ => rfl) rfl (by decide) rfl rfl rfl rfl rfl (Nat.le_of_ble_eq_true rfl) (d_recv atC7 (by decide) (by decide)) rfl (m_X0_longestWay (Nat.le_trans (by decide) hd) 9 g4) (fun r5 => ?_)
    refine y_istore_n (lo' := [some (.ref 0), some (.int v1), some (.int (-1)), some (.int r5), none, none, none]) (q := 33) rfl (Nat.le_of_ble_eq_true rfl) rfl rfl ?_
    refine y_iconst (x := 0) (q := 34) rfl (by decide) rfl ?_
    refine y_istore (lo' := [some (.ref 0), some (.int v1), some (.int (-1)), some (.int r5), some (.int 0), none, none]) (q := 36) rfl (Nat.le_of_ble_eq_true rfl) rfl rfl ?_
    refine lz_X6_match_36 hd v1  _ (fun v2_23 v3_24 z25 z26 z27 g28 => ?_) fuel0 (-1) r5 0 g4 (none) (none)
    refine y_iload_n (q := 147) rfl rfl rfl ?_
    refine y_ne0 (q := 154) (q' := 150) rfl rfl rfl rfl (fun c29 => ?_) (fun c30 => ?_)
    · skip
      refine y_iload_n (q := 151) rfl rfl rfl ?_
      refine y_goto (q := 155) rfl rfl ?_
      exact y_retI rfl (by decide) rfl rfl
    · skip
      refine y_iload_n (q := 155) rfl rfl rfl ?_
      exact y_retI rfl (by decide) rfl rfl
def f_X6_isSheet (v0 : Int32) : Option (Int32) := if v0.toInt < 0 then ((some 0)) else (if v0.toInt < 4 then ((some 1)) else ((some 0)))
theorem m_X6_isSheet {d : Nat} (hd : 1 ≤ d) (v0 : Int32) (h : dH) : dX shC d 99 [.int v0] (dP h) (f_X6_isSheet v0) h := by
  obtain ⟨e, rfl⟩ : ∃ e, d = e + 1 := ⟨d - 1, by omega⟩
  have hd : 0 ≤ e := by omega
  refine dX_of (mj := mj99) (lo := [some (.int v0)]) rfl (Nat.le_of_ble_eq_true rfl) rfl ?_
  unfold f_X6_isSheet
  refine y_iload_n (q := 1) rfl rfl rfl ?_
  refine y_lt0 (q := 13) (q' := 4) rfl rfl rfl rfl (fun c1 => ?_) (fun c2 => ?_)
  · skip
    refine y_iconst (x := 0) (q := 14) rfl (by decide) rfl ?_
    exact y_retP rfl (by decide) rfl rfl
  · skip
    refine y_iload_n (q := 5) rfl rfl rfl ?_
    refine y_iconst (x := 4) (q := 6) rfl (by decide) rfl ?_
    refine y_ge (q := 13) (q' := 9) rfl rfl (by decide) rfl rfl (fun c3 => ?_) (fun c4 => ?_)
    · skip
      refine y_iconst (x := 1) (q := 10) rfl (by decide) rfl ?_
      refine y_goto (q := 14) rfl rfl ?_
      exact y_retP rfl (by decide) rfl rfl
    · skip
      refine y_iconst (x := 0) (q := 14) rfl (by decide) rfl ?_
      exact y_retP rfl (by decide) rfl rfl
def l_X6_fits_3 (a1 : Nat) (v2 : Int32) (v3 : Int32) (h : dH) (k : Option (Int32)) : Nat → Int32 → Option (Int32)
  | 0, _ => none
  | n + 1, v4 => if v4.toInt < (h 43 2).toInt then (if 0 ≤ v2.toInt ∧ v2.toInt < 8 then (if 0 ≤ v4.toInt ∧ v4.toInt < 8 then (if (h (43 + 5 + v2.toInt.toNat) (v4.toInt.toNat)).toInt < v3.toInt then (if 0 ≤ v4.toInt ∧ v4.toInt < 40 then (if (h (a1 + 1) (v4.toInt.toNat)).toInt < 20 then (l_X6_fits_3 a1 v2 v3 h k n (v4 + 1) ) else ((some 0))) else none) else (if 0 ≤ v4.toInt ∧ v4.toInt < 40 then (if (h (a1 + 1) (v4.toInt.toNat)).toInt < 20 then ((some 0)) else (l_X6_fits_3 a1 v2 v3 h k n (v4 + 1) )) else none)) else none) else none) else (k  )
theorem lz_X6_fits_3 {d : Nat} (hd : 0 ≤ d) (a1 : Nat) (ha1 : zW a1) (v2 : Int32) (v3 : Int32) (h : dH) (k : Option (Int32)) (hk : ∀ (w4 : Int32) (z5 : Option Value), dY shC d mj117 (dP h) (k ) 68 [some (.ref 0), some (.ref a1), some (.int v2), some (.int v3), some (.int w4), z5] [] h) : ∀ (n : Nat) (v4 : Int32) (z5 : Option Value), dY shC d mj117 (dP h) (l_X6_fits_3 a1 v2 v3 h k n v4) 3 [some (.ref 0), some (.ref a1), some (.int v2), some (.int v3), some (.int v4), z5] [] h
  | 0, _, _ => dY_none
  | n + 1, v4, z5 => by
    rw [l_X6_fits_3]
    refine y_iload (q := 5) rfl rfl rfl ?_
    refine y_aload_n (q := 6) rfl rfl rfl ?_
    refine y_getR (b := 43) (q := 9) rfl rfl (by decide) atC0 rfl rfl ?_
    refine y_getI (q := 12) rfl rfl (by decide) (shS zS43) rfl rfl ?_
    refine y_ge (q := 68) (q' := 15) rfl rfl rfl rfl rfl (fun c1 => ?_) (fun c2 => ?_)
    · skip
      refine y_aload_n (q := 16) rfl rfl rfl ?_
      refine y_getR (b := 43) (q := 19) rfl rfl (by decide) atC0 rfl rfl ?_
      refine y_getR (b := (43 + 4)) (q := 22) rfl rfl (by decide) (shS zS43) rfl rfl ?_
      refine y_iload_n (q := 23) rfl rfl rfl ?_
      refine y_guard (fun c3 => ?_)
      refine y_aald (b := (43 + 5 + v2.toInt.toNat)) (K := v2.toInt.toNat) (X := v2.toInt) (q := 24) hbC rfl (shS4 zS43) (by decide) rfl c3.1 rfl (shS4k _ (by omega : v2.toInt.toNat < 8)) rfl ?_
      refine y_iload (q := 26) rfl rfl rfl ?_
      refine y_guard (fun c4 => ?_)
      refine y_iald (n := 8) (N := 8) (X := v4.toInt) (K := v4.toInt.toNat) (q := 27) hbC rfl (shSr zS43 (by omega : v2.toInt.toNat < 8)) rfl rfl c4 rfl rfl ?_
      refine y_iload_n (q := 28) rfl rfl rfl ?_
      refine y_lt (q := 35) (q' := 31) rfl rfl rfl rfl rfl (fun c5 => ?_) (fun c6 => ?_)
      · skip
        refine y_iconst (x := 0) (q := 36) rfl (by decide) rfl ?_
        refine y_istore (lo' := [some (.ref 0), some (.ref a1), some (.int v2), some (.int v3), some (.int v4), some (.int 0)]) (q := 38) rfl (Nat.le_of_ble_eq_true rfl) rfl rfl ?_
        refine y_iload (q := 40) rfl rfl rfl ?_
        refine y_aload_n (q := 41) rfl rfl rfl ?_
        refine y_getR (b := (a1 + 1)) (q := 44) rfl rfl (by decide) (shW ha1) rfl rfl ?_
        refine y_iload (q := 46) rfl rfl rfl ?_
        refine y_guard (fun c7 => ?_)
        refine y_iald (n := 40) (N := 40) (X := v4.toInt) (K := v4.toInt.toNat) (q := 47) hbC rfl (shW1 ha1) rfl rfl c7 rfl rfl ?_
        refine y_bipush (x := 20) (q := 49) rfl (by decide) rfl ?_
        refine y_lt (q := 56) (q' := 52) rfl rfl (by decide) rfl rfl (fun c8 => ?_) (fun c9 => ?_)
        · skip
          refine y_iconst (x := 0) (q := 57) rfl (by decide) rfl ?_
          refine y_icmpT (q := 62) rfl (by decide) rfl ?_
          refine y_iinc (z := (v4 + 1)) (lo' := [some (.ref 0), some (.ref a1), some (.int v2), some (.int v3), some (.int (v4 + 1)), some (.int 0)]) (q := 65) rfl rfl (Nat.le_of_ble_eq_true rfl) (by rw [oi_1]) rfl rfl ?_
          refine y_goto (q := 3) rfl rfl ?_
          exact lz_X6_fits_3 hd a1 ha1 v2 v3 h k hk n (v4 + 1)  (some (.int 0))
        · skip
          refine y_iconst (x := 1) (q := 53) rfl (by decide) rfl ?_
          refine y_goto (q := 57) rfl rfl ?_
          refine y_icmpF (q := 60) rfl (by decide) rfl rfl ?_
          refine y_iconst (x := 0) (q := 61) rfl (by decide) rfl ?_
          exact y_retP rfl (by decide) rfl rfl
      · skip
        refine y_iconst (x := 1) (q := 32) rfl (by decide) rfl ?_
        refine y_goto (q := 36) rfl rfl ?_
        refine y_istore (lo' := [some (.ref 0), some (.ref a1), some (.int v2), some (.int v3), some (.int v4), some (.int 1)]) (q := 38) rfl (Nat.le_of_ble_eq_true rfl) rfl rfl ?_
        refine y_iload (q := 40) rfl rfl rfl ?_
        refine y_aload_n (q := 41) rfl rfl rfl ?_
        refine y_getR (b := (a1 + 1)) (q := 44) rfl rfl (by decide) (shW ha1) rfl rfl ?_
        refine y_iload (q := 46) rfl rfl rfl ?_
        refine y_guard (fun c10 => ?_)
        refine y_iald (n := 40) (N := 40) (X := v4.toInt) (K := v4.toInt.toNat) (q := 47) hbC rfl (shW1 ha1) rfl rfl c10 rfl rfl ?_
        refine y_bipush (x := 20) (q := 49) rfl (by decide) rfl ?_
        refine y_lt (q := 56) (q' := 52) rfl rfl (by decide) rfl rfl (fun c11 => ?_) (fun c12 => ?_)
        · skip
          refine y_iconst (x := 0) (q := 57) rfl (by decide) rfl ?_
          refine y_icmpF (q := 60) rfl (by decide) rfl rfl ?_
          refine y_iconst (x := 0) (q := 61) rfl (by decide) rfl ?_
          exact y_retP rfl (by decide) rfl rfl
        · skip
          refine y_iconst (x := 1) (q := 53) rfl (by decide) rfl ?_
          refine y_goto (q := 57) rfl rfl ?_
          refine y_icmpT (q := 62) rfl (by decide) rfl ?_
          refine y_iinc (z := (v4 + 1)) (lo' := [some (.ref 0), some (.ref a1), some (.int v2), some (.int v3), some (.int (v4 + 1)), some (.int 1)]) (q := 65) rfl rfl (Nat.le_of_ble_eq_true rfl) (by rw [oi_1]) rfl rfl ?_
          refine y_goto (q := 3) rfl rfl ?_
          exact lz_X6_fits_3 hd a1 ha1 v2 v3 h k hk n (v4 + 1)  (some (.int 1))
    · skip
      exact hk  v4 (z5) 
def f_X6_fits (a1 : Nat) (v2 : Int32) (v3 : Int32) (h : dH) : Option (Int32) := l_X6_fits_3 a1 v2 v3 h ((some 1)) fuel0 0 
theorem m_X6_fits {d : Nat} (hd : 1 ≤ d) (a1 : Nat) (ha1 : zW a1) (v2 : Int32) (v3 : Int32) (h : dH) : dX shC d 117 [.ref 0, .ref a1, .int v2, .int v3] (dP h) (f_X6_fits a1 v2 v3 h) h := by
  obtain ⟨e, rfl⟩ : ∃ e, d = e + 1 := ⟨d - 1, by omega⟩
  have hd : 0 ≤ e := by omega
  refine dX_of (mj := mj117) (lo := [some (.ref 0), some (.ref a1), some (.int v2), some (.int v3), none, none]) rfl (Nat.le_of_ble_eq_true rfl) rfl ?_
  unfold f_X6_fits
  refine y_iconst (x := 0) (q := 1) rfl (by decide) rfl ?_
  refine y_istore (lo' := [some (.ref 0), some (.ref a1), some (.int v2), some (.int v3), some (.int 0), none]) (q := 3) rfl (Nat.le_of_ble_eq_true rfl) rfl rfl ?_
  refine lz_X6_fits_3 hd a1 ha1 v2 v3 h _ (fun z13 z14 => ?_) fuel0 0  (none)
  refine y_iconst (x := 1) (q := 69) rfl (by decide) rfl ?_
  exact y_retP rfl (by decide) rfl rfl
def l_X6_leastLimit_2 (a1 : Nat) (v2 : Int32) (h : dH) (k : Option (Int32)) : Nat → Int32 → Option (Int32)
  | 0, _ => none
  | n + 1, v3 => if 99 < v3.toInt then (k  ) else (oP (f_X6_fits a1 v2 v3 h) (fun r3 => if r3.toInt = 0 then (l_X6_leastLimit_2 a1 v2 h k n (v3 + 1) ) else ((some v3))))
theorem lz_X6_leastLimit_2 {d : Nat} (hd : 1 ≤ d) (a1 : Nat) (ha1 : zW a1) (v2 : Int32) (h : dH) (k : Option (Int32)) (hk : ∀ (w3 : Int32), dY shC d mj116 (dP h) (k ) 26 [some (.ref 0), some (.ref a1), some (.int v2), some (.int w3)] [] h) : ∀ (n : Nat) (v3 : Int32), dY shC d mj116 (dP h) (l_X6_leastLimit_2 a1 v2 h k n v3) 2 [some (.ref 0), some (.ref a1), some (.int v2), some (.int v3)] [] h
  | 0, _ => dY_none
  | n + 1, v3 => by
    rw [l_X6_leastLimit_2]
    refine y_iload_n (q := 3) rfl rfl rfl ?_
    refine y_bipush (x := 99) (q := 5) rfl (by decide) rfl ?_
    refine y_gt (q := 26) (q' := 8) rfl rfl (by decide) rfl rfl (fun c1 => ?_) (fun c2 => ?_)
    · skip
      exact hk  v3 
    · skip
      refine y_aload_n (q := 9) rfl rfl rfl ?_
      refine y_aload_n (q := 10) rfl rfl rfl ?_
      refine y_iload_n (q := 11) rfl rfl rfl ?_
      refine y_iload_n (q := 12) rfl rfl rfl ?_
      refine y_callP (I := .invokevirtual 311) (idx := 311) (KD := 1) (J := 127) (mj := mj117) (as := [.ref 0, .ref a1, .int v2, .int v3]) (r := []) (q := 15) rfl (fun _ _ _ _ _ _ => rfl) rfl (by decide) rfl rfl rfl rfl rfl (Nat.le_of_ble_eq_true rfl) (d_recv atC0 (by decide) (by decide)) rfl (m_X6_fits (Nat.le_trans (by decide) hd) a1 ha1 v2 v3 h) (fun r3 => ?_)
      refine y_eq0 (q := 20) (q' := 18) rfl rfl rfl rfl (fun c4 => ?_) (fun c5 => ?_)
      · skip
        refine y_iinc (z := (v3 + 1)) (lo' := [some (.ref 0), some (.ref a1), some (.int v2), some (.int (v3 + 1))]) (q := 23) rfl rfl (Nat.le_of_ble_eq_true rfl) (by rw [oi_1]) rfl rfl ?_
        refine y_goto (q := 2) rfl rfl ?_
        exact lz_X6_leastLimit_2 hd a1 ha1 v2 h k hk n (v3 + 1)  
      · skip
        refine y_iload_n (q := 19) rfl rfl rfl ?_
        exact y_retP rfl (by decide) rfl rfl
def f_X6_leastLimit (a1 : Nat) (v2 : Int32) (h : dH) : Option (Int32) := l_X6_leastLimit_2 a1 v2 h ((some (-1))) fuel0 1 
theorem m_X6_leastLimit {d : Nat} (hd : 2 ≤ d) (a1 : Nat) (ha1 : zW a1) (v2 : Int32) (h : dH) : dX shC d 116 [.ref 0, .ref a1, .int v2] (dP h) (f_X6_leastLimit a1 v2 h) h := by
  obtain ⟨e, rfl⟩ : ∃ e, d = e + 1 := ⟨d - 1, by omega⟩
  have hd : 1 ≤ e := by omega
  refine dX_of (mj := mj116) (lo := [some (.ref 0), some (.ref a1), some (.int v2), none]) rfl (Nat.le_of_ble_eq_true rfl) rfl ?_
  unfold f_X6_leastLimit
  refine y_iconst (x := 1) (q := 1) rfl (by decide) rfl ?_
  refine y_istore_n (lo' := [some (.ref 0), some (.ref a1), some (.int v2), some (.int 1)]) (q := 2) rfl (Nat.le_of_ble_eq_true rfl) rfl rfl ?_
  refine lz_X6_leastLimit_2 hd a1 ha1 v2 h _ (fun z6 => ?_) fuel0 1  
  refine y_iconst (x := (-1)) (q := 27) rfl (by decide) rfl ?_
  exact y_retP rfl (by decide) rfl rfl
def l_X6_limits_5 (a1 : Nat) (v2 : Int32) (h : dH) (k : Int32 → Option (Int32)) : Nat → Int32 → Int32 → Option (Int32)
  | 0, _, _ => none
  | n + 1, v3, v4 => if 99 < v4.toInt then (k v3 ) else (oP (f_X6_fits a1 v2 v4 h) (fun r3 => if r3.toInt = 0 then (l_X6_limits_5 a1 v2 h k n v3 (v4 + 1) ) else (l_X6_limits_5 a1 v2 h k n (v3 + 1) (v4 + 1) )))
theorem lz_X6_limits_5 {d : Nat} (hd : 1 ≤ d) (a1 : Nat) (ha1 : zW a1) (v2 : Int32) (h : dH) (k : Int32 → Option (Int32)) (hk : ∀ (v3 : Int32) (w4 : Int32), dY shC d mj115 (dP h) (k v3) 32 [some (.ref 0), some (.ref a1), some (.int v2), some (.int v3), some (.int w4)] [] h) : ∀ (n : Nat) (v3 : Int32) (v4 : Int32), dY shC d mj115 (dP h) (l_X6_limits_5 a1 v2 h k n v3 v4) 5 [some (.ref 0), some (.ref a1), some (.int v2), some (.int v3), some (.int v4)] [] h
  | 0, _, _ => dY_none
  | n + 1, v3, v4 => by
    rw [l_X6_limits_5]
    refine y_iload (q := 7) rfl rfl rfl ?_
    refine y_bipush (x := 99) (q := 9) rfl (by decide) rfl ?_
    refine y_gt (q := 32) (q' := 12) rfl rfl (by decide) rfl rfl (fun c1 => ?_) (fun c2 => ?_)
    · skip
      exact hk v3 v4 
    · skip
      refine y_aload_n (q := 13) rfl rfl rfl ?_
      refine y_aload_n (q := 14) rfl rfl rfl ?_
      refine y_iload_n (q := 15) rfl rfl rfl ?_
      refine y_iload (q := 17) rfl rfl rfl ?_
      refine y_callP (I := .invokevirtual 311) (idx := 311) (KD := 1) (J := 127) (mj := mj117) (as := [.ref 0, .ref a1, .int v2, .int v4]) (r := []) (q := 20) rfl (fun _ _ _ _ _ _ => rfl) rfl (by decide) rfl rfl rfl rfl rfl (Nat.le_of_ble_eq_true rfl) (d_recv atC0 (by decide) (by decide)) rfl (m_X6_fits (Nat.le_trans (by decide) hd) a1 ha1 v2 v4 h) (fun r3 => ?_)
      refine y_eq0 (q := 26) (q' := 23) rfl rfl rfl rfl (fun c4 => ?_) (fun c5 => ?_)
      · skip
        refine y_iinc (z := (v4 + 1)) (lo' := [some (.ref 0), some (.ref a1), some (.int v2), some (.int v3), some (.int (v4 + 1))]) (q := 29) rfl rfl (Nat.le_of_ble_eq_true rfl) (by rw [oi_1]) rfl rfl ?_
        refine y_goto (q := 5) rfl rfl ?_
        exact lz_X6_limits_5 hd a1 ha1 v2 h k hk n v3 (v4 + 1)  
      · skip
        refine y_iinc (z := (v3 + 1)) (lo' := [some (.ref 0), some (.ref a1), some (.int v2), some (.int (v3 + 1)), some (.int v4)]) (q := 26) rfl rfl (Nat.le_of_ble_eq_true rfl) (by rw [oi_1]) rfl rfl ?_
        refine y_iinc (z := (v4 + 1)) (lo' := [some (.ref 0), some (.ref a1), some (.int v2), some (.int (v3 + 1)), some (.int (v4 + 1))]) (q := 29) rfl rfl (Nat.le_of_ble_eq_true rfl) (by rw [oi_1]) rfl rfl ?_
        refine y_goto (q := 5) rfl rfl ?_
        exact lz_X6_limits_5 hd a1 ha1 v2 h k hk n (v3 + 1) (v4 + 1)  
def f_X6_limits (a1 : Nat) (v2 : Int32) (h : dH) : Option (Int32) := l_X6_limits_5 a1 v2 h (fun v3_6 => (some v3_6)) fuel0 0 1 
theorem m_X6_limits {d : Nat} (hd : 2 ≤ d) (a1 : Nat) (ha1 : zW a1) (v2 : Int32) (h : dH) : dX shC d 115 [.ref 0, .ref a1, .int v2] (dP h) (f_X6_limits a1 v2 h) h := by
  obtain ⟨e, rfl⟩ : ∃ e, d = e + 1 := ⟨d - 1, by omega⟩
  have hd : 1 ≤ e := by omega
  refine dX_of (mj := mj115) (lo := [some (.ref 0), some (.ref a1), some (.int v2), none, none]) rfl (Nat.le_of_ble_eq_true rfl) rfl ?_
  unfold f_X6_limits
  refine y_iconst (x := 0) (q := 1) rfl (by decide) rfl ?_
  refine y_istore_n (lo' := [some (.ref 0), some (.ref a1), some (.int v2), some (.int 0), none]) (q := 2) rfl (Nat.le_of_ble_eq_true rfl) rfl rfl ?_
  refine y_iconst (x := 1) (q := 3) rfl (by decide) rfl ?_
  refine y_istore (lo' := [some (.ref 0), some (.ref a1), some (.int v2), some (.int 0), some (.int 1)]) (q := 5) rfl (Nat.le_of_ble_eq_true rfl) rfl rfl ?_
  refine lz_X6_limits_5 hd a1 ha1 v2 h _ (fun v3_6 z7 => ?_) fuel0 0 1  
  refine y_iload_n (q := 33) rfl rfl rfl ?_
  exact y_retP rfl (by decide) rfl rfl
def f_X6_otherwise (a1 : Nat) (v2 : Int32) (h : dH) : Option (Int32 × dH) := oV (f_X3_become 57 43 h) (fun g1 => oV (f_X3_holdFeast 57 g1) (fun g2 => if 0 ≤ v2.toInt ∧ v2.toInt < 8 then (oP (f_X2_unlikeItems a1 (57 + 5 + v2.toInt.toNat) g2) (fun r4 => some (r4, g2))) else none))
theorem m_X6_otherwise {d : Nat} (hd : 5 ≤ d) (a1 : Nat) (ha1 : zW a1) (v2 : Int32) (h : dH) : dX shC d 111 [.ref 0, .ref a1, .int v2] dI (f_X6_otherwise a1 v2 h) h := by
  obtain ⟨e, rfl⟩ : ∃ e, d = e + 1 := ⟨d - 1, by omega⟩
  have hd : 4 ≤ e := by omega
  refine dX_of (mj := mj111) (lo := [some (.ref 0), some (.ref a1), some (.int v2)]) rfl (Nat.le_of_ble_eq_true rfl) rfl ?_
  unfold f_X6_otherwise
  refine y_aload_n (q := 1) rfl rfl rfl ?_
  refine y_getR (b := 57) (q := 4) rfl rfl (by decide) atC0 rfl rfl ?_
  refine y_aload_n (q := 5) rfl rfl rfl ?_
  refine y_getR (b := 43) (q := 8) rfl rfl (by decide) atC0 rfl rfl ?_
  refine y_callV (I := .invokevirtual 186) (idx := 186) (KD := 1) (J := 38) (mj := mj28) (as := [.ref 57, .ref 43]) (r := []) (q := 11) rfl (fun _ _ _ _ _ _ => rfl) rfl (by decide) rfl rfl rfl rfl rfl (Nat.le_of_ble_eq_true rfl) (d_recv (shS zS57) (by decide) (by decide)) rfl (m_X3_become (Nat.le_trans (by decide) hd) 57 zS57 43 zS43 h) (fun g1 => ?_)
  refine y_aload_n (q := 12) rfl rfl rfl ?_
  refine y_getR (b := 57) (q := 15) rfl rfl (by decide) atC0 rfl rfl ?_
  refine y_callV (I := .invokevirtual 163) (idx := 163) (KD := 1) (J := 51) (mj := mj41) (as := [.ref 57]) (r := []) (q := 18) rfl (fun _ _ _ _ _ _ => rfl) rfl (by decide) rfl rfl rfl rfl rfl (Nat.le_of_ble_eq_true rfl) (d_recv (shS zS57) (by decide) (by decide)) rfl (m_X3_holdFeast (Nat.le_trans (by decide) hd) 57 zS57 g1) (fun g2 => ?_)
  refine y_aload_n (q := 19) rfl rfl rfl ?_
  refine y_aload_n (q := 20) rfl rfl rfl ?_
  refine y_getR (b := 57) (q := 23) rfl rfl (by decide) atC0 rfl rfl ?_
  refine y_getR (b := (57 + 4)) (q := 26) rfl rfl (by decide) (shS zS57) rfl rfl ?_
  refine y_iload_n (q := 27) rfl rfl rfl ?_
  refine y_guard (fun c3 => ?_)
  refine y_aald (b := (57 + 5 + v2.toInt.toNat)) (K := v2.toInt.toNat) (X := v2.toInt) (q := 28) hbC rfl (shS4 zS57) (by decide) rfl c3.1 rfl (shS4k _ (by omega : v2.toInt.toNat < 8)) rfl ?_
  refine y_callP (I := .invokevirtual 301) (idx := 301) (KD := 1) (J := 36) (mj := mj26) (as := [.ref a1, .ref (57 + 5 + v2.toInt.toNat)]) (r := []) (q := 31) rfl (fun _ _ _ _ _ _ => rfl) rfl (by decide) rfl rfl rfl rfl rfl (Nat.le_of_ble_eq_true rfl) (d_recv (shW ha1) (by decide) (by decide)) rfl (m_X2_unlikeItems (Nat.le_trans (by decide) hd) a1 ha1 (57 + 5 + v2.toInt.toNat) (shSr zS57 (by omega : v2.toInt.toNat < 8)) g2) (fun r4 => ?_)
  exact y_retI rfl (by decide) rfl rfl
def f_X6_choices (v1 : Int32) (h : dH) : Option (Int32) := if v1.toInt = 1 then ((some 6)) else (if v1.toInt = 2 then ((some 10)) else (if v1.toInt = 3 then ((some 4)) else ((some (h 0 3)))))
theorem m_X6_choices {d : Nat} (hd : 1 ≤ d) (v1 : Int32) (h : dH) : dX shC d 113 [.ref 0, .int v1] (dP h) (f_X6_choices v1 h) h := by
  obtain ⟨e, rfl⟩ : ∃ e, d = e + 1 := ⟨d - 1, by omega⟩
  have hd : 0 ≤ e := by omega
  refine dX_of (mj := mj113) (lo := [some (.ref 0), some (.int v1)]) rfl (Nat.le_of_ble_eq_true rfl) rfl ?_
  unfold f_X6_choices
  refine y_iload_n (q := 1) rfl rfl rfl ?_
  refine dY_ite (fun c1 => ?_) (fun c2 => ?_)
  · skip
    refine y_tabI (q := 28) 1 rfl c1 (by decide) (by decide) rfl rfl ?_
    refine y_bipush (x := 6) (q := 30) rfl (by decide) rfl ?_
    exact y_retP rfl (by decide) rfl rfl
  refine dY_ite (fun c3 => ?_) (fun c4 => ?_)
  · skip
    refine y_tabI (q := 31) 2 rfl c3 (by decide) (by decide) rfl rfl ?_
    refine y_bipush (x := 10) (q := 33) rfl (by decide) rfl ?_
    exact y_retP rfl (by decide) rfl rfl
  refine dY_ite (fun c5 => ?_) (fun c6 => ?_)
  · skip
    refine y_tabI (q := 34) 3 rfl c5 (by decide) (by decide) rfl rfl ?_
    refine y_iconst (x := 4) (q := 35) rfl (by decide) rfl ?_
    exact y_retP rfl (by decide) rfl rfl
  refine y_tabD (q := 36) rfl (by omega) rfl ?_
  refine y_aload_n (q := 37) rfl rfl rfl ?_
  refine y_getI (q := 40) rfl rfl (by decide) atC0 rfl rfl ?_
  exact y_retP rfl (by decide) rfl rfl
def f_X6_suppose (v1 : Int32) (v2 : Int32) (v3 : Int32) (h : dH) : Option (dH) := if v2.toInt = 1 then (if 0 ≤ v1.toInt ∧ v1.toInt < 8 then (oH (dU h (57 + 1) (v1.toInt.toNat) v3) (fun g3 => some g3)) else none) else (if v2.toInt = 2 then (if 0 ≤ v1.toInt ∧ v1.toInt < 8 then (oH (dU h (57 + 2) (v1.toInt.toNat) v3) (fun g7 => some g7)) else none) else (if v2.toInt = 3 then (if 0 ≤ v1.toInt ∧ v1.toInt < 8 then (oH (dU h (57 + 3) (v1.toInt.toNat) v3) (fun g11 => some g11)) else none) else (if 0 ≤ v3.toInt ∧ v3.toInt < 6 then (oH (dU h 57 3 (dti (10 + 4 * v3.toInt.toNat))) (fun g14 => some g14)) else none)))
theorem m_X6_suppose {d : Nat} (hd : 1 ≤ d) (v1 : Int32) (v2 : Int32) (v3 : Int32) (h : dH) : dX shC d 114 [.ref 0, .int v1, .int v2, .int v3] dV (f_X6_suppose v1 v2 v3 h) h := by
  obtain ⟨e, rfl⟩ : ∃ e, d = e + 1 := ⟨d - 1, by omega⟩
  have hd : 0 ≤ e := by omega
  refine dX_of (mj := mj114) (lo := [some (.ref 0), some (.int v1), some (.int v2), some (.int v3)]) rfl (Nat.le_of_ble_eq_true rfl) rfl ?_
  unfold f_X6_suppose
  refine y_iload_n (q := 1) rfl rfl rfl ?_
  refine dY_ite (fun c1 => ?_) (fun c2 => ?_)
  · skip
    refine y_tabI (q := 28) 1 rfl c1 (by decide) (by decide) rfl rfl ?_
    refine y_aload_n (q := 29) rfl rfl rfl ?_
    refine y_getR (b := 57) (q := 32) rfl rfl (by decide) atC0 rfl rfl ?_
    refine y_getR (b := (57 + 1)) (q := 35) rfl rfl (by decide) (shS zS57) rfl rfl ?_
    refine y_iload_n (q := 36) rfl rfl rfl ?_
    refine y_iload_n (q := 37) rfl rfl rfl ?_
    refine y_guard (fun c4 => ?_)
    refine y_iast (n := 8) (N := 8) (X := v1.toInt) (K := v1.toInt.toNat) (q := 38) rfl (shS1 zS57) rfl rfl c4 rfl rfl (fun g3 => ?_)
    refine y_goto (q := 80) rfl rfl ?_
    exact y_retV rfl rfl rfl
  refine dY_ite (fun c5 => ?_) (fun c6 => ?_)
  · skip
    refine y_tabI (q := 41) 2 rfl c5 (by decide) (by decide) rfl rfl ?_
    refine y_aload_n (q := 42) rfl rfl rfl ?_
    refine y_getR (b := 57) (q := 45) rfl rfl (by decide) atC0 rfl rfl ?_
    refine y_getR (b := (57 + 2)) (q := 48) rfl rfl (by decide) (shS zS57) rfl rfl ?_
    refine y_iload_n (q := 49) rfl rfl rfl ?_
    refine y_iload_n (q := 50) rfl rfl rfl ?_
    refine y_guard (fun c8 => ?_)
    refine y_iast (n := 8) (N := 8) (X := v1.toInt) (K := v1.toInt.toNat) (q := 51) rfl (shS2 zS57) rfl rfl c8 rfl rfl (fun g7 => ?_)
    refine y_goto (q := 80) rfl rfl ?_
    exact y_retV rfl rfl rfl
  refine dY_ite (fun c9 => ?_) (fun c10 => ?_)
  · skip
    refine y_tabI (q := 54) 3 rfl c9 (by decide) (by decide) rfl rfl ?_
    refine y_aload_n (q := 55) rfl rfl rfl ?_
    refine y_getR (b := 57) (q := 58) rfl rfl (by decide) atC0 rfl rfl ?_
    refine y_getR (b := (57 + 3)) (q := 61) rfl rfl (by decide) (shS zS57) rfl rfl ?_
    refine y_iload_n (q := 62) rfl rfl rfl ?_
    refine y_iload_n (q := 63) rfl rfl rfl ?_
    refine y_guard (fun c12 => ?_)
    refine y_iast (n := 8) (N := 8) (X := v1.toInt) (K := v1.toInt.toNat) (q := 64) rfl (shS3 zS57) rfl rfl c12 rfl rfl (fun g11 => ?_)
    refine y_goto (q := 80) rfl rfl ?_
    exact y_retV rfl rfl rfl
  refine y_tabD (q := 67) rfl (by omega) rfl ?_
  refine y_aload_n (q := 68) rfl rfl rfl ?_
  refine y_getR (b := 57) (q := 71) rfl rfl (by decide) atC0 rfl rfl ?_
  refine y_aload_n (q := 72) rfl rfl rfl ?_
  refine y_getR (b := 6) (q := 75) rfl rfl (by decide) atC0 rfl rfl ?_
  refine y_iload_n (q := 76) rfl rfl rfl ?_
  refine y_guard (fun c13 => ?_)
  refine y_aald (b := (10 + 4 * v3.toInt.toNat)) (K := v3.toInt.toNat) (X := v3.toInt) (q := 77) hbC rfl atC6 (by decide) rfl c13.1 rfl (at6k (by omega : v3.toInt.toNat < 6)) rfl ?_
  refine y_putT (q := 80) rfl rfl (by decide) (shS zS57) rfl (dtx_dti (zT6 (by omega : v3.toInt.toNat < 6))) rfl rfl rfl (fun g14 => ?_)
  exact y_retV rfl rfl rfl
def l_X6_possible_13 (a1 : Nat) (v2 : Int32) (v3 : Int32) (v5 : Int32) (k : Int32 → dH → Option (Int32 × dH)) : Nat → Int32 → Int32 → dH → Option (Int32 × dH)
  | 0, _, _, _ => none
  | n + 1, v4, v6, h => if v6.toInt < v5.toInt then (oV (f_X3_become 57 43 h) (fun g4 => oV (f_X6_suppose v2 v3 v6 g4) (fun g5 => oV (f_X3_holdFeast 57 g5) (fun g6 => if 0 ≤ v2.toInt ∧ v2.toInt < 8 then (oP (f_X2_unlikeItems a1 (57 + 5 + v2.toInt.toNat) g6) (fun r8 => if r8.toInt = 0 then (l_X6_possible_13 a1 v2 v3 v5 k n (v4 ||| (dshl 1 v6)) (v6 + 1) g6) else (l_X6_possible_13 a1 v2 v3 v5 k n v4 (v6 + 1) g6))) else none)))) else (k v4 h)
theorem lz_X6_possible_13 {d : Nat} (hd : 4 ≤ d) (a1 : Nat) (ha1 : zW a1) (v2 : Int32) (v3 : Int32) (v5 : Int32) (k : Int32 → dH → Option (Int32 × dH)) (hk : ∀ (v4 : Int32) (w6 : Int32) (h : dH), dY shC d mj112 dI (k v4 h) 77 [some (.ref 0), some (.ref a1), some (.int v2), some (.int v3), some (.int v4), some (.int v5), some (.int w6)] [] h) : ∀ (n : Nat) (v4 : Int32) (v6 : Int32) (h : dH), dY shC d mj112 dI (l_X6_possible_13 a1 v2 v3 v5 k n v4 v6 h) 13 [some (.ref 0), some (.ref a1), some (.int v2), some (.int v3), some (.int v4), some (.int v5), some (.int v6)] [] h
  | 0, _, _, _ => dY_none
  | n + 1, v4, v6, h => by
    rw [l_X6_possible_13]
    refine y_iload (q := 15) rfl rfl rfl ?_
    refine y_iload (q := 17) rfl rfl rfl ?_
    refine y_ge (q := 77) (q' := 20) rfl rfl rfl rfl rfl (fun c2 => ?_) (fun c3 => ?_)
    · skip
      refine y_aload_n (q := 21) rfl rfl rfl ?_
      refine y_getR (b := 57) (q := 24) rfl rfl (by decide) atC0 rfl rfl ?_
      refine y_aload_n (q := 25) rfl rfl rfl ?_
      refine y_getR (b := 43) (q := 28) rfl rfl (by decide) atC0 rfl rfl ?_
      refine y_callV (I := .invokevirtual 186) (idx := 186) (KD := 1) (J := 38) (mj := mj28) (as := [.ref 57, .ref 43]) (r := []) (q := 31) rfl (fun _ _ _ _ _ _ => rfl) rfl (by decide) rfl rfl rfl rfl rfl (Nat.le_of_ble_eq_true rfl) (d_recv (shS zS57) (by decide) (by decide)) rfl (m_X3_become (Nat.le_trans (by decide) hd) 57 zS57 43 zS43 h) (fun g4 => ?_)
      refine y_aload_n (q := 32) rfl rfl rfl ?_
      refine y_iload_n (q := 33) rfl rfl rfl ?_
      refine y_iload_n (q := 34) rfl rfl rfl ?_
      refine y_iload (q := 36) rfl rfl rfl ?_
      refine y_callV (I := .invokevirtual 308) (idx := 308) (KD := 1) (J := 124) (mj := mj114) (as := [.ref 0, .int v2, .int v3, .int v6]) (r := []) (q := 39) rfl (fun _ _ _ _ _ _ => rfl) rfl (by decide) rfl rfl rfl rfl rfl (Nat.le_of_ble_eq_true rfl) (d_recv atC0 (by decide) (by decide)) rfl (m_X6_suppose (Nat.le_trans (by decide) hd) v2 v3 v6 g4) (fun g5 => ?_)
      refine y_aload_n (q := 40) rfl rfl rfl ?_
      refine y_getR (b := 57) (q := 43) rfl rfl (by decide) atC0 rfl rfl ?_
      refine y_callV (I := .invokevirtual 163) (idx := 163) (KD := 1) (J := 51) (mj := mj41) (as := [.ref 57]) (r := []) (q := 46) rfl (fun _ _ _ _ _ _ => rfl) rfl (by decide) rfl rfl rfl rfl rfl (Nat.le_of_ble_eq_true rfl) (d_recv (shS zS57) (by decide) (by decide)) rfl (m_X3_holdFeast (Nat.le_trans (by decide) hd) 57 zS57 g5) (fun g6 => ?_)
      refine y_aload_n (q := 47) rfl rfl rfl ?_
      refine y_aload_n (q := 48) rfl rfl rfl ?_
      refine y_getR (b := 57) (q := 51) rfl rfl (by decide) atC0 rfl rfl ?_
      refine y_getR (b := (57 + 4)) (q := 54) rfl rfl (by decide) (shS zS57) rfl rfl ?_
      refine y_iload_n (q := 55) rfl rfl rfl ?_
      refine y_guard (fun c7 => ?_)
      refine y_aald (b := (57 + 5 + v2.toInt.toNat)) (K := v2.toInt.toNat) (X := v2.toInt) (q := 56) hbC rfl (shS4 zS57) (by decide) rfl c7.1 rfl (shS4k _ (by omega : v2.toInt.toNat < 8)) rfl ?_
      refine y_callP (I := .invokevirtual 301) (idx := 301) (KD := 1) (J := 36) (mj := mj26) (as := [.ref a1, .ref (57 + 5 + v2.toInt.toNat)]) (r := []) (q := 59) rfl (fun _ _ _ _ _ _ => rfl) rfl (by decide) rfl rfl rfl rfl rfl (Nat.le_of_ble_eq_true rfl) (d_recv (shW ha1) (by decide) (by decide)) rfl (m_X2_unlikeItems (Nat.le_trans (by decide) hd) a1 ha1 (57 + 5 + v2.toInt.toNat) (shSr zS57 (by omega : v2.toInt.toNat < 8)) g6) (fun r8 => ?_)
      refine y_ne0 (q := 71) (q' := 62) rfl rfl rfl rfl (fun c9 => ?_) (fun c10 => ?_)
      · skip
        refine y_iload (q := 64) rfl rfl rfl ?_
        refine y_iconst (x := 1) (q := 65) rfl (by decide) rfl ?_
        refine y_iload (q := 67) rfl rfl rfl ?_
        refine y_ishl (q := 68) rfl rfl ?_
        refine y_ior (q := 69) rfl rfl ?_
        refine y_istore (lo' := [some (.ref 0), some (.ref a1), some (.int v2), some (.int v3), some (.int (v4 ||| (dshl 1 v6))), some (.int v5), some (.int v6)]) (q := 71) rfl (Nat.le_of_ble_eq_true rfl) rfl rfl ?_
        refine y_iinc (z := (v6 + 1)) (lo' := [some (.ref 0), some (.ref a1), some (.int v2), some (.int v3), some (.int (v4 ||| (dshl 1 v6))), some (.int v5), some (.int (v6 + 1))]) (q := 74) rfl rfl (Nat.le_of_ble_eq_true rfl) (by rw [oi_1]) rfl rfl ?_
        refine y_goto (q := 13) rfl rfl ?_
        exact lz_X6_possible_13 hd a1 ha1 v2 v3 v5 k hk n (v4 ||| (dshl 1 v6)) (v6 + 1) g6 
      · skip
        refine y_iinc (z := (v6 + 1)) (lo' := [some (.ref 0), some (.ref a1), some (.int v2), some (.int v3), some (.int v4), some (.int v5), some (.int (v6 + 1))]) (q := 74) rfl rfl (Nat.le_of_ble_eq_true rfl) (by rw [oi_1]) rfl rfl ?_
        refine y_goto (q := 13) rfl rfl ?_
        exact lz_X6_possible_13 hd a1 ha1 v2 v3 v5 k hk n v4 (v6 + 1) g6 
    · skip
      exact hk v4 v6 h
def f_X6_possible (a1 : Nat) (v2 : Int32) (v3 : Int32) (h : dH) : Option (Int32 × dH) := oP (f_X6_choices v3 h) (fun r1 => l_X6_possible_13 a1 v2 v3 r1  (fun v4_11 g13 => some (v4_11, g13)) fuel0 0 0 h)
theorem m_X6_possible {d : Nat} (hd : 5 ≤ d) (a1 : Nat) (ha1 : zW a1) (v2 : Int32) (v3 : Int32) (h : dH) : dX shC d 112 [.ref 0, .ref a1, .int v2, .int v3] dI (f_X6_possible a1 v2 v3 h) h := by
  obtain ⟨e, rfl⟩ : ∃ e, d = e + 1 := ⟨d - 1, by omega⟩
  have hd : 4 ≤ e := by omega
  refine dX_of (mj := mj112) (lo := [some (.ref 0), some (.ref a1), some (.int v2), some (.int v3), none, none, none]) rfl (Nat.le_of_ble_eq_true rfl) rfl ?_
  unfold f_X6_possible
  refine y_iconst (x := 0) (q := 1) rfl (by decide) rfl ?_
  refine y_istore (lo' := [some (.ref 0), some (.ref a1), some (.int v2), some (.int v3), some (.int 0), none, none]) (q := 3) rfl (Nat.le_of_ble_eq_true rfl) rfl rfl ?_
  refine y_aload_n (q := 4) rfl rfl rfl ?_
  refine y_iload_n (q := 5) rfl rfl rfl ?_
  refine y_callP (I := .invokevirtual 305) (idx := 305) (KD := 1) (J := 123) (mj := mj113) (as := [.ref 0, .int v3]) (r := []) (q := 8) rfl (fun _ _ _ _ _ _ => rfl) rfl (by decide) rfl rfl rfl rfl rfl (Nat.le_of_ble_eq_true rfl) (d_recv atC0 (by decide) (by decide)) rfl (m_X6_choices (Nat.le_trans (by decide) hd) v3 h) (fun r1 => ?_)
  refine y_istore (lo' := [some (.ref 0), some (.ref a1), some (.int v2), some (.int v3), some (.int 0), some (.int r1), none]) (q := 10) rfl (Nat.le_of_ble_eq_true rfl) rfl rfl ?_
  refine y_iconst (x := 0) (q := 11) rfl (by decide) rfl ?_
  refine y_istore (lo' := [some (.ref 0), some (.ref a1), some (.int v2), some (.int v3), some (.int 0), some (.int r1), some (.int 0)]) (q := 13) rfl (Nat.le_of_ble_eq_true rfl) rfl rfl ?_
  refine lz_X6_possible_13 hd a1 ha1 v2 v3 r1  _ (fun v4_11 z12 g13 => ?_) fuel0 0 0 h 
  refine y_iload (q := 79) rfl rfl rfl ?_
  exact y_retI rfl (by decide) rfl rfl
def f_X6_tells (v1 : Int32) (v2 : Int32) (v3 : Int32) (h : dH) : Option (Int32 × dH) := oP (f_X6_isSheet v1) (fun r1 => if r1.toInt = 0 then (some ((-2), h)) else (oP (f_X6_isHouse v2 h) (fun r4 => if r4.toInt = 0 then (some ((-2), h)) else (if v3.toInt < 0 then (some ((-2), h)) else (if 6 < v3.toInt then (some ((-2), h)) else (if 0 ≤ v1.toInt ∧ v1.toInt < 4 then (oP (f_X2_isMissing (34 + 2 * v1.toInt.toNat) h) (fun r12 => if r12.toInt = 0 then (if (h (34 + 2 * v1.toInt.toNat) 1).toInt = (h 43 2).toInt then (if v3.toInt = 0 then (oI (f_X6_otherwise (34 + 2 * v1.toInt.toNat) v2 h) (fun r19 g20 => some (r19, g20))) else (if v3.toInt = 5 then (oP (f_X6_limits (34 + 2 * v1.toInt.toNat) v2 h) (fun r23 => some (r23, h))) else (if v3.toInt = 6 then (oP (f_X6_leastLimit (34 + 2 * v1.toInt.toNat) v2 h) (fun r26 => some (r26, h))) else (oI (f_X6_possible (34 + 2 * v1.toInt.toNat) v2 v3 h) (fun r27 g28 => some (r27, g28)))))) else (some ((-2), h))) else (some ((-11), h)))) else none))))))
theorem m_X6_tells {d : Nat} (hd : 6 ≤ d) (v1 : Int32) (v2 : Int32) (v3 : Int32) (h : dH) : dX shC d 85 [.ref 0, .int v1, .int v2, .int v3] dI (f_X6_tells v1 v2 v3 h) h := by
  obtain ⟨e, rfl⟩ : ∃ e, d = e + 1 := ⟨d - 1, by omega⟩
  have hd : 5 ≤ e := by omega
  refine dX_of (mj := mj85) (lo := [some (.ref 0), some (.int v1), some (.int v2), some (.int v3), none]) rfl (Nat.le_of_ble_eq_true rfl) rfl ?_
  unfold f_X6_tells
  refine y_iload_n (q := 1) rfl rfl rfl ?_
  refine y_callP (I := .invokestatic 217) (idx := 217) (KD := 0) (J := 109) (mj := mj99) (as := [.int v1]) (r := []) (q := 4) rfl (fun _ _ _ _ _ _ => rfl) rfl (by decide) rfl rfl rfl rfl rfl (Nat.le_of_ble_eq_true rfl) rfl rfl (m_X6_isSheet (Nat.le_trans (by decide) hd) v1 h) (fun r1 => ?_)
  refine y_eq0 (q := 25) (q' := 7) rfl rfl rfl rfl (fun c2 => ?_) (fun c3 => ?_)
  · skip
    refine y_bipush (x := (-2)) (q := 27) rfl (by decide) rfl ?_
    exact y_retI rfl (by decide) rfl rfl
  · skip
    refine y_aload_n (q := 8) rfl rfl rfl ?_
    refine y_iload_n (q := 9) rfl rfl rfl ?_
    refine y_callP (I := .invokevirtual 90) (idx := 90) (KD := 1) (J := 107) (mj := mj97) (as := [.ref 0, .int v2]) (r := []) (q := 12) rfl (fun _ _ _ _ _ _ => rfl) rfl (by decide) rfl rfl rfl rfl rfl (Nat.le_of_ble_eq_true rfl) (d_recv atC0 (by decide) (by decide)) rfl (m_X6_isHouse (Nat.le_trans (by decide) hd) v2 h) (fun r4 => ?_)
    refine y_eq0 (q := 25) (q' := 15) rfl rfl rfl rfl (fun c5 => ?_) (fun c6 => ?_)
    · skip
      refine y_bipush (x := (-2)) (q := 27) rfl (by decide) rfl ?_
      exact y_retI rfl (by decide) rfl rfl
    · skip
      refine y_iload_n (q := 16) rfl rfl rfl ?_
      refine y_lt0 (q := 25) (q' := 19) rfl rfl rfl rfl (fun c7 => ?_) (fun c8 => ?_)
      · skip
        refine y_bipush (x := (-2)) (q := 27) rfl (by decide) rfl ?_
        exact y_retI rfl (by decide) rfl rfl
      · skip
        refine y_iload_n (q := 20) rfl rfl rfl ?_
        refine y_bipush (x := 6) (q := 22) rfl (by decide) rfl ?_
        refine y_le (q := 28) (q' := 25) rfl rfl (by decide) rfl rfl (fun c9 => ?_) (fun c10 => ?_)
        · skip
          refine y_bipush (x := (-2)) (q := 27) rfl (by decide) rfl ?_
          exact y_retI rfl (by decide) rfl rfl
        · skip
          refine y_aload_n (q := 29) rfl rfl rfl ?_
          refine y_getR (b := 9) (q := 32) rfl rfl (by decide) atC0 rfl rfl ?_
          refine y_iload_n (q := 33) rfl rfl rfl ?_
          refine y_guard (fun c11 => ?_)
          refine y_aald (b := (34 + 2 * v1.toInt.toNat)) (K := v1.toInt.toNat) (X := v1.toInt) (q := 34) hbC rfl atC9 (by decide) rfl c11.1 rfl (at9k (by omega : v1.toInt.toNat < 4)) rfl ?_
          refine y_astore (lo' := [some (.ref 0), some (.int v1), some (.int v2), some (.int v3), some (.ref (34 + 2 * v1.toInt.toNat))]) (q := 36) rfl (Nat.le_of_ble_eq_true rfl) rfl rfl ?_
          refine y_aload (q := 38) rfl rfl rfl ?_
          refine y_callP (I := .invokevirtual 220) (idx := 220) (KD := 1) (J := 32) (mj := mj22) (as := [.ref (34 + 2 * v1.toInt.toNat)]) (r := []) (q := 41) rfl (fun _ _ _ _ _ _ => rfl) rfl (by decide) rfl rfl rfl rfl rfl (Nat.le_of_ble_eq_true rfl) (d_recv (shW (zW4 (by omega : v1.toInt.toNat < 4))) (by decide) (by decide)) rfl (m_X2_isMissing (Nat.le_trans (by decide) hd) (34 + 2 * v1.toInt.toNat) (zW4 (by omega : v1.toInt.toNat < 4)) h) (fun r12 => ?_)
          refine y_eq0 (q := 47) (q' := 44) rfl rfl rfl rfl (fun c13 => ?_) (fun c14 => ?_)
          · skip
            refine y_aload (q := 49) rfl rfl rfl ?_
            refine y_getI (q := 52) rfl rfl (by decide) (shW (zW4 (by omega : v1.toInt.toNat < 4))) rfl rfl ?_
            refine y_aload_n (q := 53) rfl rfl rfl ?_
            refine y_getR (b := 43) (q := 56) rfl rfl (by decide) atC0 rfl rfl ?_
            refine y_getI (q := 59) rfl rfl (by decide) (shS zS43) rfl rfl ?_
            refine y_eq (q := 65) (q' := 62) rfl rfl rfl rfl rfl (fun c15 => ?_) (fun c16 => ?_)
            · skip
              refine y_iload_n (q := 66) rfl rfl rfl ?_
              refine dY_ite (fun c17 => ?_) (fun c18 => ?_)
              · skip
                refine y_look (off := 34) (q := 100) rfl (by decide) (by rw [c17]; rfl) rfl ?_
                refine y_aload_n (q := 101) rfl rfl rfl ?_
                refine y_aload (q := 103) rfl rfl rfl ?_
                refine y_iload_n (q := 104) rfl rfl rfl ?_
                refine y_callI (I := .invokevirtual 225) (idx := 225) (KD := 1) (J := 121) (mj := mj111) (as := [.ref 0, .ref (34 + 2 * v1.toInt.toNat), .int v2]) (r := []) (q := 107) rfl (fun _ _ _ _ _ _ => rfl) rfl (by decide) rfl rfl rfl rfl rfl (Nat.le_of_ble_eq_true rfl) (d_recv atC0 (by decide) (by decide)) rfl (m_X6_otherwise (Nat.le_trans (by decide) hd) (34 + 2 * v1.toInt.toNat) (zW4 (by omega : v1.toInt.toNat < 4)) v2 h) (fun r19 g20 => ?_)
                exact y_retI rfl (by decide) rfl rfl
              refine dY_ite (fun c21 => ?_) (fun c22 => ?_)
              · skip
                refine y_look (off := 42) (q := 108) rfl (by decide) (by rw [c21]; rfl) rfl ?_
                refine y_aload_n (q := 109) rfl rfl rfl ?_
                refine y_aload (q := 111) rfl rfl rfl ?_
                refine y_iload_n (q := 112) rfl rfl rfl ?_
                refine y_callP (I := .invokevirtual 229) (idx := 229) (KD := 1) (J := 125) (mj := mj115) (as := [.ref 0, .ref (34 + 2 * v1.toInt.toNat), .int v2]) (r := []) (q := 115) rfl (fun _ _ _ _ _ _ => rfl) rfl (by decide) rfl rfl rfl rfl rfl (Nat.le_of_ble_eq_true rfl) (d_recv atC0 (by decide) (by decide)) rfl (m_X6_limits (Nat.le_trans (by decide) hd) (34 + 2 * v1.toInt.toNat) (zW4 (by omega : v1.toInt.toNat < 4)) v2 h) (fun r23 => ?_)
                exact y_retI rfl (by decide) rfl rfl
              refine dY_ite (fun c24 => ?_) (fun c25 => ?_)
              · skip
                refine y_look (off := 50) (q := 116) rfl (by decide) (by rw [c24]; rfl) rfl ?_
                refine y_aload_n (q := 117) rfl rfl rfl ?_
                refine y_aload (q := 119) rfl rfl rfl ?_
                refine y_iload_n (q := 120) rfl rfl rfl ?_
                refine y_callP (I := .invokevirtual 232) (idx := 232) (KD := 1) (J := 126) (mj := mj116) (as := [.ref 0, .ref (34 + 2 * v1.toInt.toNat), .int v2]) (r := []) (q := 123) rfl (fun _ _ _ _ _ _ => rfl) rfl (by decide) rfl rfl rfl rfl rfl (Nat.le_of_ble_eq_true rfl) (d_recv atC0 (by decide) (by decide)) rfl (m_X6_leastLimit (Nat.le_trans (by decide) hd) (34 + 2 * v1.toInt.toNat) (zW4 (by omega : v1.toInt.toNat < 4)) v2 h) (fun r26 => ?_)
                exact y_retI rfl (by decide) rfl rfl
              refine y_look (off := 58) (q := 124) rfl (by decide) (dlook_none (by simp [c18, c22, c25])) rfl ?_
              refine y_aload_n (q := 125) rfl rfl rfl ?_
              refine y_aload (q := 127) rfl rfl rfl ?_
              refine y_iload_n (q := 128) rfl rfl rfl ?_
              refine y_iload_n (q := 129) rfl rfl rfl ?_
              refine y_callI (I := .invokevirtual 235) (idx := 235) (KD := 1) (J := 122) (mj := mj112) (as := [.ref 0, .ref (34 + 2 * v1.toInt.toNat), .int v2, .int v3]) (r := []) (q := 132) rfl (fun _ _ _ _ _ _ => rfl) rfl (by decide) rfl rfl rfl rfl rfl (Nat.le_of_ble_eq_true rfl) (d_recv atC0 (by decide) (by decide)) rfl (m_X6_possible (Nat.le_trans (by decide) hd) (34 + 2 * v1.toInt.toNat) (zW4 (by omega : v1.toInt.toNat < 4)) v2 v3 h) (fun r27 g28 => ?_)
              exact y_retI rfl (by decide) rfl rfl
            · skip
              refine y_bipush (x := (-2)) (q := 64) rfl (by decide) rfl ?_
              exact y_retI rfl (by decide) rfl rfl
          · skip
            refine y_bipush (x := (-11)) (q := 46) rfl (by decide) rfl ?_
            exact y_retI rfl (by decide) rfl rfl
def l_X6_film_58 (v2 : Int32) (a3 : Nat) (k : dH → Option (Int32 × dH)) : Nat → Int32 → dH → Option (Int32 × dH)
  | 0, _, _ => none
  | n + 1, v4, h => if v4.toInt < (h 43 2).toInt then (if 0 ≤ v2.toInt ∧ v2.toInt < 8 then (if 0 ≤ v4.toInt ∧ v4.toInt < 8 then (oV (f_X2_put a3 v4 (h (57 + 5 + v2.toInt.toNat) (v4.toInt.toNat)) h) (fun g15 => l_X6_film_58 v2 a3 k n (v4 + 1) g15)) else none) else none) else (k  h)
theorem lz_X6_film_58 {d : Nat} (hd : 4 ≤ d) (v1 : Int32) (v2 : Int32) (a3 : Nat) (ha3 : zW a3) (k : dH → Option (Int32 × dH)) (hk : ∀ (w4 : Int32) (h : dH), dY shC d mj86 dI (k h) 94 [some (.ref 0), some (.int v1), some (.int v2), some (.ref a3), some (.int w4)] [] h) : ∀ (n : Nat) (v4 : Int32) (h : dH), dY shC d mj86 dI (l_X6_film_58 v2 a3 k n v4 h) 58 [some (.ref 0), some (.int v1), some (.int v2), some (.ref a3), some (.int v4)] [] h
  | 0, _, _ => dY_none
  | n + 1, v4, h => by
    rw [l_X6_film_58]
    refine y_iload (q := 60) rfl rfl rfl ?_
    refine y_aload_n (q := 61) rfl rfl rfl ?_
    refine y_getR (b := 43) (q := 64) rfl rfl (by decide) atC0 rfl rfl ?_
    refine y_getI (q := 67) rfl rfl (by decide) (shS zS43) rfl rfl ?_
    refine y_ge (q := 94) (q' := 70) rfl rfl rfl rfl rfl (fun c11 => ?_) (fun c12 => ?_)
    · skip
      refine y_aload_n (q := 71) rfl rfl rfl ?_
      refine y_iload (q := 73) rfl rfl rfl ?_
      refine y_aload_n (q := 74) rfl rfl rfl ?_
      refine y_getR (b := 57) (q := 77) rfl rfl (by decide) atC0 rfl rfl ?_
      refine y_getR (b := (57 + 4)) (q := 80) rfl rfl (by decide) (shS zS57) rfl rfl ?_
      refine y_iload_n (q := 81) rfl rfl rfl ?_
      refine y_guard (fun c13 => ?_)
      refine y_aald (b := (57 + 5 + v2.toInt.toNat)) (K := v2.toInt.toNat) (X := v2.toInt) (q := 82) hbC rfl (shS4 zS57) (by decide) rfl c13.1 rfl (shS4k _ (by omega : v2.toInt.toNat < 8)) rfl ?_
      refine y_iload (q := 84) rfl rfl rfl ?_
      refine y_guard (fun c14 => ?_)
      refine y_iald (n := 8) (N := 8) (X := v4.toInt) (K := v4.toInt.toNat) (q := 85) hbC rfl (shSr zS57 (by omega : v2.toInt.toNat < 8)) rfl rfl c14 rfl rfl ?_
      refine y_callV (I := .invokevirtual 242) (idx := 242) (KD := 1) (J := 35) (mj := mj25) (as := [.ref a3, .int v4, .int (h (57 + 5 + v2.toInt.toNat) (v4.toInt.toNat))]) (r := []) (q := 88) rfl (fun _ _ _ _ _ _ => rfl) rfl (by decide) rfl rfl rfl rfl rfl (Nat.le_of_ble_eq_true rfl) (d_recv (shW ha3) (by decide) (by decide)) rfl (m_X2_put (Nat.le_trans (by decide) hd) a3 ha3 v4 (h (57 + 5 + v2.toInt.toNat) (v4.toInt.toNat)) h) (fun g15 => ?_)
      refine y_iinc (z := (v4 + 1)) (lo' := [some (.ref 0), some (.int v1), some (.int v2), some (.ref a3), some (.int (v4 + 1))]) (q := 91) rfl rfl (Nat.le_of_ble_eq_true rfl) (by rw [oi_1]) rfl rfl ?_
      refine y_goto (q := 58) rfl rfl ?_
      exact lz_X6_film_58 hd v1 v2 a3 ha3 k hk n (v4 + 1) g15 
    · skip
      exact hk  v4 h
def f_X6_film (v1 : Int32) (v2 : Int32) (h : dH) : Option (Int32 × dH) := oP (f_X6_isSheet v1) (fun r1 => if r1.toInt = 0 then (some ((-2), h)) else (oP (f_X6_isHouse v2 h) (fun r4 => if r4.toInt = 0 then (some ((-2), h)) else (oV (f_X3_become 57 43 h) (fun g7 => oV (f_X3_holdFeast 57 g7) (fun g8 => if 0 ≤ v1.toInt ∧ v1.toInt < 4 then (oV (f_X2_lay (34 + 2 * v1.toInt.toNat) 0 (g8 43 2) g8) (fun g10 => l_X6_film_58 v2 (34 + 2 * v1.toInt.toNat)  (fun g17 => some ((g17 43 2), g17)) fuel0 0 g10)) else none))))))
theorem m_X6_film {d : Nat} (hd : 5 ≤ d) (v1 : Int32) (v2 : Int32) (h : dH) : dX shC d 86 [.ref 0, .int v1, .int v2] dI (f_X6_film v1 v2 h) h := by
  obtain ⟨e, rfl⟩ : ∃ e, d = e + 1 := ⟨d - 1, by omega⟩
  have hd : 4 ≤ e := by omega
  refine dX_of (mj := mj86) (lo := [some (.ref 0), some (.int v1), some (.int v2), none, none]) rfl (Nat.le_of_ble_eq_true rfl) rfl ?_
  unfold f_X6_film
  refine y_iload_n (q := 1) rfl rfl rfl ?_
  refine y_callP (I := .invokestatic 217) (idx := 217) (KD := 0) (J := 109) (mj := mj99) (as := [.int v1]) (r := []) (q := 4) rfl (fun _ _ _ _ _ _ => rfl) rfl (by decide) rfl rfl rfl rfl rfl (Nat.le_of_ble_eq_true rfl) rfl rfl (m_X6_isSheet (Nat.le_trans (by decide) hd) v1 h) (fun r1 => ?_)
  refine y_eq0 (q := 15) (q' := 7) rfl rfl rfl rfl (fun c2 => ?_) (fun c3 => ?_)
  · skip
    refine y_bipush (x := (-2)) (q := 17) rfl (by decide) rfl ?_
    exact y_retI rfl (by decide) rfl rfl
  · skip
    refine y_aload_n (q := 8) rfl rfl rfl ?_
    refine y_iload_n (q := 9) rfl rfl rfl ?_
    refine y_callP (I := .invokevirtual 90) (idx := 90) (KD := 1) (J := 107) (mj := mj97) (as := [.ref 0, .int v2]) (r := []) (q := 12) rfl (fun _ _ _ _ _ _ => rfl) rfl (by decide) rfl rfl rfl rfl rfl (Nat.le_of_ble_eq_true rfl) (d_recv atC0 (by decide) (by decide)) rfl (m_X6_isHouse (Nat.le_trans (by decide) hd) v2 h) (fun r4 => ?_)
    refine y_ne0 (q := 18) (q' := 15) rfl rfl rfl rfl (fun c5 => ?_) (fun c6 => ?_)
    · skip
      refine y_bipush (x := (-2)) (q := 17) rfl (by decide) rfl ?_
      exact y_retI rfl (by decide) rfl rfl
    · skip
      refine y_aload_n (q := 19) rfl rfl rfl ?_
      refine y_getR (b := 57) (q := 22) rfl rfl (by decide) atC0 rfl rfl ?_
      refine y_aload_n (q := 23) rfl rfl rfl ?_
      refine y_getR (b := 43) (q := 26) rfl rfl (by decide) atC0 rfl rfl ?_
      refine y_callV (I := .invokevirtual 186) (idx := 186) (KD := 1) (J := 38) (mj := mj28) (as := [.ref 57, .ref 43]) (r := []) (q := 29) rfl (fun _ _ _ _ _ _ => rfl) rfl (by decide) rfl rfl rfl rfl rfl (Nat.le_of_ble_eq_true rfl) (d_recv (shS zS57) (by decide) (by decide)) rfl (m_X3_become (Nat.le_trans (by decide) hd) 57 zS57 43 zS43 h) (fun g7 => ?_)
      refine y_aload_n (q := 30) rfl rfl rfl ?_
      refine y_getR (b := 57) (q := 33) rfl rfl (by decide) atC0 rfl rfl ?_
      refine y_callV (I := .invokevirtual 163) (idx := 163) (KD := 1) (J := 51) (mj := mj41) (as := [.ref 57]) (r := []) (q := 36) rfl (fun _ _ _ _ _ _ => rfl) rfl (by decide) rfl rfl rfl rfl rfl (Nat.le_of_ble_eq_true rfl) (d_recv (shS zS57) (by decide) (by decide)) rfl (m_X3_holdFeast (Nat.le_trans (by decide) hd) 57 zS57 g7) (fun g8 => ?_)
      refine y_aload_n (q := 37) rfl rfl rfl ?_
      refine y_getR (b := 9) (q := 40) rfl rfl (by decide) atC0 rfl rfl ?_
      refine y_iload_n (q := 41) rfl rfl rfl ?_
      refine y_guard (fun c9 => ?_)
      refine y_aald (b := (34 + 2 * v1.toInt.toNat)) (K := v1.toInt.toNat) (X := v1.toInt) (q := 42) hbC rfl atC9 (by decide) rfl c9.1 rfl (at9k (by omega : v1.toInt.toNat < 4)) rfl ?_
      refine y_astore_n (lo' := [some (.ref 0), some (.int v1), some (.int v2), some (.ref (34 + 2 * v1.toInt.toNat)), none]) (q := 43) rfl (Nat.le_of_ble_eq_true rfl) rfl rfl ?_
      refine y_aload_n (q := 44) rfl rfl rfl ?_
      refine y_iconst (x := 0) (q := 45) rfl (by decide) rfl ?_
      refine y_aload_n (q := 46) rfl rfl rfl ?_
      refine y_getR (b := 43) (q := 49) rfl rfl (by decide) atC0 rfl rfl ?_
      refine y_getI (q := 52) rfl rfl (by decide) (shS zS43) rfl rfl ?_
      refine y_callV (I := .invokevirtual 239) (idx := 239) (KD := 1) (J := 33) (mj := mj23) (as := [.ref (34 + 2 * v1.toInt.toNat), .int 0, .int (g8 43 2)]) (r := []) (q := 55) rfl (fun _ _ _ _ _ _ => rfl) rfl (by decide) rfl rfl rfl rfl rfl (Nat.le_of_ble_eq_true rfl) (d_recv (shW (zW4 (by omega : v1.toInt.toNat < 4))) (by decide) (by decide)) rfl (m_X2_lay (Nat.le_trans (by decide) hd) (34 + 2 * v1.toInt.toNat) (zW4 (by omega : v1.toInt.toNat < 4)) 0 (g8 43 2) g8) (fun g10 => ?_)
      refine y_iconst (x := 0) (q := 56) rfl (by decide) rfl ?_
      refine y_istore (lo' := [some (.ref 0), some (.int v1), some (.int v2), some (.ref (34 + 2 * v1.toInt.toNat)), some (.int 0)]) (q := 58) rfl (Nat.le_of_ble_eq_true rfl) rfl rfl ?_
      refine lz_X6_film_58 hd v1 v2 (34 + 2 * v1.toInt.toNat) (zW4 (by omega : v1.toInt.toNat < 4))  _ (fun z16 g17 => ?_) fuel0 0 g10 
      refine y_aload_n (q := 95) rfl rfl rfl ?_
      refine y_getR (b := 43) (q := 98) rfl rfl (by decide) atC0 rfl rfl ?_
      refine y_getI (q := 101) rfl rfl (by decide) (shS zS43) rfl rfl ?_
      exact y_retI rfl (by decide) rfl rfl
def l_X6_friendsDrawn_16  (k : dH → Option (Int32 × dH)) : Nat → Int32 → Int32 → dH → Option (Int32 × dH)
  | 0, _, _, _ => none
  | n + 1, v3, v4, h => if v4.toInt < (h 43 2).toInt then (if 0 ≤ v4.toInt ∧ v4.toInt < 8 then (oH (dU h (57 + 3) (v4.toInt.toNat) (drem (dushr ((v3 * 1103515245) + 12345) 9) 4)) (fun g4 => l_X6_friendsDrawn_16  k n ((v3 * 1103515245) + 12345) (v4 + 1) g4)) else none) else (k  h)
theorem lz_X6_friendsDrawn_16 {d : Nat} (hd : 5 ≤ d) (v1 : Int32) (v2 : Int32) (k : dH → Option (Int32 × dH)) (hk : ∀ (w3 : Int32) (w4 : Int32) (h : dH), dY shC d mj109 dI (k h) 60 [some (.ref 0), some (.int v1), some (.int v2), some (.int w3), some (.int w4)] [] h) : ∀ (n : Nat) (v3 : Int32) (v4 : Int32) (h : dH), dY shC d mj109 dI (l_X6_friendsDrawn_16  k n v3 v4 h) 16 [some (.ref 0), some (.int v1), some (.int v2), some (.int v3), some (.int v4)] [] h
  | 0, _, _, _ => dY_none
  | n + 1, v3, v4, h => by
    rw [l_X6_friendsDrawn_16]
    refine y_iload (q := 18) rfl rfl rfl ?_
    refine y_aload_n (q := 19) rfl rfl rfl ?_
    refine y_getR (b := 43) (q := 22) rfl rfl (by decide) atC0 rfl rfl ?_
    refine y_getI (q := 25) rfl rfl (by decide) (shS zS43) rfl rfl ?_
    refine y_ge (q := 60) (q' := 28) rfl rfl rfl rfl rfl (fun c2 => ?_) (fun c3 => ?_)
    · skip
      refine y_iload_n (q := 29) rfl rfl rfl ?_
      refine y_ldc_w (x := 1103515245) (q := 32) rfl rfl rfl ?_
      refine y_imul (q := 33) rfl rfl ?_
      refine y_sipush (x := 12345) (q := 36) rfl (by decide) rfl ?_
      refine y_iadd (q := 37) rfl rfl ?_
      refine y_istore_n (lo' := [some (.ref 0), some (.int v1), some (.int v2), some (.int ((v3 * 1103515245) + 12345)), some (.int v4)]) (q := 38) rfl (Nat.le_of_ble_eq_true rfl) rfl rfl ?_
      refine y_aload_n (q := 39) rfl rfl rfl ?_
      refine y_getR (b := 57) (q := 42) rfl rfl (by decide) atC0 rfl rfl ?_
      refine y_getR (b := (57 + 3)) (q := 45) rfl rfl (by decide) (shS zS57) rfl rfl ?_
      refine y_iload (q := 47) rfl rfl rfl ?_
      refine y_iload_n (q := 48) rfl rfl rfl ?_
      refine y_bipush (x := 9) (q := 50) rfl (by decide) rfl ?_
      refine y_iushr (q := 51) rfl rfl ?_
      refine y_iconst (x := 4) (q := 52) rfl (by decide) rfl ?_
      refine y_irem (q := 53) rfl (by decide) rfl ?_
      refine y_guard (fun c5 => ?_)
      refine y_iast (n := 8) (N := 8) (X := v4.toInt) (K := v4.toInt.toNat) (q := 54) rfl (shS3 zS57) rfl rfl c5 rfl rfl (fun g4 => ?_)
      refine y_iinc (z := (v4 + 1)) (lo' := [some (.ref 0), some (.int v1), some (.int v2), some (.int ((v3 * 1103515245) + 12345)), some (.int (v4 + 1))]) (q := 57) rfl rfl (Nat.le_of_ble_eq_true rfl) (by rw [oi_1]) rfl rfl ?_
      refine y_goto (q := 16) rfl rfl ?_
      exact lz_X6_friendsDrawn_16 hd v1 v2 k hk n ((v3 * 1103515245) + 12345) (v4 + 1) g4 
    · skip
      exact hk  v3 v4 h
def f_X6_friendsDrawn (v1 : Int32) (v2 : Int32) (h : dH) : Option (Int32 × dH) := oV (f_X3_become 57 43 h) (fun g1 => l_X6_friendsDrawn_16   (fun g8 => oI (f_X3_pass 57 v2 g8) (fun r9 g10 => some (r9, g10))) fuel0 v1 0 g1)
theorem m_X6_friendsDrawn {d : Nat} (hd : 6 ≤ d) (v1 : Int32) (v2 : Int32) (h : dH) : dX shC d 109 [.ref 0, .int v1, .int v2] dI (f_X6_friendsDrawn v1 v2 h) h := by
  obtain ⟨e, rfl⟩ : ∃ e, d = e + 1 := ⟨d - 1, by omega⟩
  have hd : 5 ≤ e := by omega
  refine dX_of (mj := mj109) (lo := [some (.ref 0), some (.int v1), some (.int v2), none, none]) rfl (Nat.le_of_ble_eq_true rfl) rfl ?_
  unfold f_X6_friendsDrawn
  refine y_aload_n (q := 1) rfl rfl rfl ?_
  refine y_getR (b := 57) (q := 4) rfl rfl (by decide) atC0 rfl rfl ?_
  refine y_aload_n (q := 5) rfl rfl rfl ?_
  refine y_getR (b := 43) (q := 8) rfl rfl (by decide) atC0 rfl rfl ?_
  refine y_callV (I := .invokevirtual 186) (idx := 186) (KD := 1) (J := 38) (mj := mj28) (as := [.ref 57, .ref 43]) (r := []) (q := 11) rfl (fun _ _ _ _ _ _ => rfl) rfl (by decide) rfl rfl rfl rfl rfl (Nat.le_of_ble_eq_true rfl) (d_recv (shS zS57) (by decide) (by decide)) rfl (m_X3_become (Nat.le_trans (by decide) hd) 57 zS57 43 zS43 h) (fun g1 => ?_)
  refine y_iload_n (q := 12) rfl rfl rfl ?_
  refine y_istore_n (lo' := [some (.ref 0), some (.int v1), some (.int v2), some (.int v1), none]) (q := 13) rfl (Nat.le_of_ble_eq_true rfl) rfl rfl ?_
  refine y_iconst (x := 0) (q := 14) rfl (by decide) rfl ?_
  refine y_istore (lo' := [some (.ref 0), some (.int v1), some (.int v2), some (.int v1), some (.int 0)]) (q := 16) rfl (Nat.le_of_ble_eq_true rfl) rfl rfl ?_
  refine lz_X6_friendsDrawn_16 hd v1 v2  _ (fun z6 z7 g8 => ?_) fuel0 v1 0 g1 
  refine y_aload_n (q := 61) rfl rfl rfl ?_
  refine y_getR (b := 57) (q := 64) rfl rfl (by decide) atC0 rfl rfl ?_
  refine y_iload_n (q := 65) rfl rfl rfl ?_
  refine y_callI (I := .invokevirtual 189) (idx := 189) (KD := 1) (J := 53) (mj := mj43) (as := [.ref 57, .int v2]) (r := []) (q := 68) rfl (fun _ _ _ _ _ _ => rfl) rfl (by decide) rfl rfl rfl rfl rfl (Nat.le_of_ble_eq_true rfl) (d_recv (shS zS57) (by decide) (by decide)) rfl (m_X3_pass (Nat.le_trans (by decide) hd) 57 zS57 v2 g8) (fun r9 g10 => ?_)
  exact y_retI rfl (by decide) rfl rfl
def f_X6_drawn (v1 : Int32) (v2 : Int32) (h : dH) : Option (Int32 × dH) := oP (f_X6_isYears v2) (fun r1 => if r1.toInt = 0 then (some ((-2), h)) else (oI (f_X6_friendsDrawn v1 v2 h) (fun r4 g5 => some (r4, g5))))
theorem m_X6_drawn {d : Nat} (hd : 7 ≤ d) (v1 : Int32) (v2 : Int32) (h : dH) : dX shC d 87 [.ref 0, .int v1, .int v2] dI (f_X6_drawn v1 v2 h) h := by
  obtain ⟨e, rfl⟩ : ∃ e, d = e + 1 := ⟨d - 1, by omega⟩
  have hd : 6 ≤ e := by omega
  refine dX_of (mj := mj87) (lo := [some (.ref 0), some (.int v1), some (.int v2)]) rfl (Nat.le_of_ble_eq_true rfl) rfl ?_
  unfold f_X6_drawn
  refine y_iload_n (q := 1) rfl rfl rfl ?_
  refine y_callP (I := .invokestatic 183) (idx := 183) (KD := 0) (J := 111) (mj := mj101) (as := [.int v2]) (r := []) (q := 4) rfl (fun _ _ _ _ _ _ => rfl) rfl (by decide) rfl rfl rfl rfl rfl (Nat.le_of_ble_eq_true rfl) rfl rfl (m_X6_isYears (Nat.le_trans (by decide) hd) v2 h) (fun r1 => ?_)
  refine y_ne0 (q := 10) (q' := 7) rfl rfl rfl rfl (fun c2 => ?_) (fun c3 => ?_)
  · skip
    refine y_bipush (x := (-2)) (q := 9) rfl (by decide) rfl ?_
    exact y_retI rfl (by decide) rfl rfl
  · skip
    refine y_aload_n (q := 11) rfl rfl rfl ?_
    refine y_iload_n (q := 12) rfl rfl rfl ?_
    refine y_iload_n (q := 13) rfl rfl rfl ?_
    refine y_callI (I := .invokevirtual 244) (idx := 244) (KD := 1) (J := 119) (mj := mj109) (as := [.ref 0, .int v1, .int v2]) (r := []) (q := 16) rfl (fun _ _ _ _ _ _ => rfl) rfl (by decide) rfl rfl rfl rfl rfl (Nat.le_of_ble_eq_true rfl) (d_recv atC0 (by decide) (by decide)) rfl (m_X6_friendsDrawn (Nat.le_trans (by decide) hd) v1 v2 h) (fun r4 g5 => ?_)
    exact y_retI rfl (by decide) rfl rfl
def l_X6_commonDivisor_7  (k : Int32 → Option (Int32)) : Nat → Int32 → Int32 → Int32 → Option (Int32)
  | 0, _, _, _ => none
  | n + 1, v2, v3, v4 => if v4.toInt < 20 then (if 0 < v3.toInt then (if ¬ v3 = 0 then l_X6_commonDivisor_7  k n v3 (drem v2 v3) (v4 + 1)  else none) else (k v2 )) else (k v2 )
theorem lz_X6_commonDivisor_7 {d : Nat} (hd : 0 ≤ d) (v0 : Int32) (v1 : Int32) (h : dH) (k : Int32 → Option (Int32)) (hk : ∀ (v2 : Int32) (w3 : Int32) (w4 : Int32) (z5 : Option Value), dY shC d mj110 (dP h) (k v2) 34 [some (.int v0), some (.int v1), some (.int v2), some (.int w3), some (.int w4), z5] [] h) : ∀ (n : Nat) (v2 : Int32) (v3 : Int32) (v4 : Int32) (z5 : Option Value), dY shC d mj110 (dP h) (l_X6_commonDivisor_7  k n v2 v3 v4) 7 [some (.int v0), some (.int v1), some (.int v2), some (.int v3), some (.int v4), z5] [] h
  | 0, _, _, _, _ => dY_none
  | n + 1, v2, v3, v4, z5 => by
    rw [l_X6_commonDivisor_7]
    refine y_iload (q := 9) rfl rfl rfl ?_
    refine y_bipush (x := 20) (q := 11) rfl (by decide) rfl ?_
    refine y_ge (q := 34) (q' := 14) rfl rfl (by decide) rfl rfl (fun c1 => ?_) (fun c2 => ?_)
    · skip
      refine y_iload_n (q := 15) rfl rfl rfl ?_
      refine y_le0 (q := 34) (q' := 18) rfl rfl rfl rfl (fun c3 => ?_) (fun c4 => ?_)
      · skip
        refine y_iload_n (q := 19) rfl rfl rfl ?_
        refine y_iload_n (q := 20) rfl rfl rfl ?_
        refine y_guard (fun c5 => ?_)
        refine y_irem (q := 21) rfl c5 rfl ?_
        refine y_istore (lo' := [some (.int v0), some (.int v1), some (.int v2), some (.int v3), some (.int v4), some (.int (drem v2 v3))]) (q := 23) rfl (Nat.le_of_ble_eq_true rfl) rfl rfl ?_
        refine y_iload_n (q := 24) rfl rfl rfl ?_
        refine y_istore_n (lo' := [some (.int v0), some (.int v1), some (.int v3), some (.int v3), some (.int v4), some (.int (drem v2 v3))]) (q := 25) rfl (Nat.le_of_ble_eq_true rfl) rfl rfl ?_
        refine y_iload (q := 27) rfl rfl rfl ?_
        refine y_istore_n (lo' := [some (.int v0), some (.int v1), some (.int v3), some (.int (drem v2 v3)), some (.int v4), some (.int (drem v2 v3))]) (q := 28) rfl (Nat.le_of_ble_eq_true rfl) rfl rfl ?_
        refine y_iinc (z := (v4 + 1)) (lo' := [some (.int v0), some (.int v1), some (.int v3), some (.int (drem v2 v3)), some (.int (v4 + 1)), some (.int (drem v2 v3))]) (q := 31) rfl rfl (Nat.le_of_ble_eq_true rfl) (by rw [oi_1]) rfl rfl ?_
        refine y_goto (q := 7) rfl rfl ?_
        exact lz_X6_commonDivisor_7 hd v0 v1 h k hk n v3 (drem v2 v3) (v4 + 1)  (some (.int (drem v2 v3)))
      · skip
        exact hk v2 v3 v4 (z5) 
    · skip
      exact hk v2 v3 v4 (z5) 
def f_X6_commonDivisor (v0 : Int32) (v1 : Int32) : Option (Int32) := l_X6_commonDivisor_7   (fun v2_6 => (some (dmax 1 v2_6))) fuel0 v1 v0 0 
theorem m_X6_commonDivisor {d : Nat} (hd : 1 ≤ d) (v0 : Int32) (v1 : Int32) (h : dH) : dX shC d 110 [.int v0, .int v1] (dP h) (f_X6_commonDivisor v0 v1) h := by
  obtain ⟨e, rfl⟩ : ∃ e, d = e + 1 := ⟨d - 1, by omega⟩
  have hd : 0 ≤ e := by omega
  refine dX_of (mj := mj110) (lo := [some (.int v0), some (.int v1), none, none, none, none]) rfl (Nat.le_of_ble_eq_true rfl) rfl ?_
  unfold f_X6_commonDivisor
  refine y_iload_n (q := 1) rfl rfl rfl ?_
  refine y_istore_n (lo' := [some (.int v0), some (.int v1), some (.int v1), none, none, none]) (q := 2) rfl (Nat.le_of_ble_eq_true rfl) rfl rfl ?_
  refine y_iload_n (q := 3) rfl rfl rfl ?_
  refine y_istore_n (lo' := [some (.int v0), some (.int v1), some (.int v1), some (.int v0), none, none]) (q := 4) rfl (Nat.le_of_ble_eq_true rfl) rfl rfl ?_
  refine y_iconst (x := 0) (q := 5) rfl (by decide) rfl ?_
  refine y_istore (lo' := [some (.int v0), some (.int v1), some (.int v1), some (.int v0), some (.int 0), none]) (q := 7) rfl (Nat.le_of_ble_eq_true rfl) rfl rfl ?_
  refine lz_X6_commonDivisor_7 hd v0 v1 h _ (fun v2_6 z7 z8 z9 => ?_) fuel0 v1 v0 0  (none)
  refine y_iconst (x := 1) (q := 35) rfl (by decide) rfl ?_
  refine y_iload_n (q := 36) rfl rfl rfl ?_
  refine y_max (q := 39) rfl rfl (Nat.le_of_ble_eq_true rfl) rfl ?_
  exact y_retP rfl (by decide) rfl rfl
def l_X6_chance_36 (v1 : Int32) (v2 : Int32) (v3 : Int32) (k : Int32 → dH → Option (Int64 × dH)) : Nat → Int32 → Int32 → dH → Option (Int64 × dH)
  | 0, _, _, _ => none
  | n + 1, v5, v6, h => if v6.toInt < v2.toInt then (oI (f_X6_friendsDrawn (v1 + v6) 3 h) (fun r13 g14 => if r13.toInt < v3.toInt then (l_X6_chance_36 v1 v2 v3 k n v5 (v6 + 1) g14) else (l_X6_chance_36 v1 v2 v3 k n (v5 + 1) (v6 + 1) g14))) else (k v5 h)
theorem lz_X6_chance_36 {d : Nat} (hd : 6 ≤ d) (v1 : Int32) (v2 : Int32) (v3 : Int32) (v4 : Int32) (k : Int32 → dH → Option (Int64 × dH)) (hk : ∀ (v5 : Int32) (w6 : Int32) (h : dH), dY shC d mj88 dL (k v5 h) 64 [some (.ref 0), some (.int v1), some (.int v2), some (.int v3), some (.int v4), some (.int v5), some (.int w6)] [] h) : ∀ (n : Nat) (v5 : Int32) (v6 : Int32) (h : dH), dY shC d mj88 dL (l_X6_chance_36 v1 v2 v3 k n v5 v6 h) 36 [some (.ref 0), some (.int v1), some (.int v2), some (.int v3), some (.int v4), some (.int v5), some (.int v6)] [] h
  | 0, _, _, _ => dY_none
  | n + 1, v5, v6, h => by
    rw [l_X6_chance_36]
    refine y_iload (q := 38) rfl rfl rfl ?_
    refine y_iload_n (q := 39) rfl rfl rfl ?_
    refine y_ge (q := 64) (q' := 42) rfl rfl rfl rfl rfl (fun c11 => ?_) (fun c12 => ?_)
    · skip
      refine y_aload_n (q := 43) rfl rfl rfl ?_
      refine y_iload_n (q := 44) rfl rfl rfl ?_
      refine y_iload (q := 46) rfl rfl rfl ?_
      refine y_iadd (q := 47) rfl rfl ?_
      refine y_iconst (x := 3) (q := 48) rfl (by decide) rfl ?_
      refine y_callI (I := .invokevirtual 244) (idx := 244) (KD := 1) (J := 119) (mj := mj109) (as := [.ref 0, .int (v1 + v6), .int 3]) (r := []) (q := 51) rfl (fun _ _ _ _ _ _ => rfl) rfl (by decide) rfl rfl rfl rfl rfl (Nat.le_of_ble_eq_true rfl) (d_recv atC0 (by decide) (by decide)) rfl (m_X6_friendsDrawn (Nat.le_trans (by decide) hd) (v1 + v6) 3 h) (fun r13 g14 => ?_)
      refine y_iload_n (q := 52) rfl rfl rfl ?_
      refine y_lt (q := 58) (q' := 55) rfl rfl rfl rfl rfl (fun c15 => ?_) (fun c16 => ?_)
      · skip
        refine y_iinc (z := (v6 + 1)) (lo' := [some (.ref 0), some (.int v1), some (.int v2), some (.int v3), some (.int v4), some (.int v5), some (.int (v6 + 1))]) (q := 61) rfl rfl (Nat.le_of_ble_eq_true rfl) (by rw [oi_1]) rfl rfl ?_
        refine y_goto (q := 36) rfl rfl ?_
        exact lz_X6_chance_36 hd v1 v2 v3 v4 k hk n v5 (v6 + 1) g14 
      · skip
        refine y_iinc (z := (v5 + 1)) (lo' := [some (.ref 0), some (.int v1), some (.int v2), some (.int v3), some (.int v4), some (.int (v5 + 1)), some (.int v6)]) (q := 58) rfl rfl (Nat.le_of_ble_eq_true rfl) (by rw [oi_1]) rfl rfl ?_
        refine y_iinc (z := (v6 + 1)) (lo' := [some (.ref 0), some (.int v1), some (.int v2), some (.int v3), some (.int v4), some (.int (v5 + 1)), some (.int (v6 + 1))]) (q := 61) rfl rfl (Nat.le_of_ble_eq_true rfl) (by rw [oi_1]) rfl rfl ?_
        refine y_goto (q := 36) rfl rfl ?_
        exact lz_X6_chance_36 hd v1 v2 v3 v4 k hk n (v5 + 1) (v6 + 1) g14 
    · skip
      exact hk v5 v6 h
def f_X6_chance (v1 : Int32) (v2 : Int32) (v3 : Int32) (v4 : Int32) (h : dH) : Option (Int64 × dH) := if v2.toInt < 1 then (some ((-4611686018427387904), h)) else (if 20 < v2.toInt then (some ((-4611686018427387904), h)) else (oP (f_X6_isFriends v3) (fun r5 => if r5.toInt = 0 then (some ((-4611686018427387904), h)) else (oP (f_X6_isEither v4) (fun r8 => if r8.toInt = 0 then (some ((-4611686018427387904), h)) else (l_X6_chance_36 v1 v2 v3  (fun v5_17 g19 => oP (f_X6_commonDivisor v5_17 v2) (fun r20 => if v4.toInt = 0 then (if ¬ r20 = 0 then some ((v5_17 / r20).toInt64, g19) else none) else (if ¬ r20 = 0 then some ((v2 / r20).toInt64, g19) else none))) fuel0 0 0 h))))))
theorem m_X6_chance {d : Nat} (hd : 7 ≤ d) (v1 : Int32) (v2 : Int32) (v3 : Int32) (v4 : Int32) (h : dH) : dX shC d 88 [.ref 0, .int v1, .int v2, .int v3, .int v4] dL (f_X6_chance v1 v2 v3 v4 h) h := by
  obtain ⟨e, rfl⟩ : ∃ e, d = e + 1 := ⟨d - 1, by omega⟩
  have hd : 6 ≤ e := by omega
  refine dX_of (mj := mj88) (lo := [some (.ref 0), some (.int v1), some (.int v2), some (.int v3), some (.int v4), none, none]) rfl (Nat.le_of_ble_eq_true rfl) rfl ?_
  unfold f_X6_chance
  refine y_iload_n (q := 1) rfl rfl rfl ?_
  refine y_iconst (x := 1) (q := 2) rfl (by decide) rfl ?_
  refine y_lt (q := 26) (q' := 5) rfl rfl (by decide) rfl rfl (fun c1 => ?_) (fun c2 => ?_)
  · skip
    refine y_ldc2_w (u := (-4611686018427387904)) (q := 29) rfl rfl rfl ?_
    exact y_retL rfl rfl rfl
  · skip
    refine y_iload_n (q := 6) rfl rfl rfl ?_
    refine y_bipush (x := 20) (q := 8) rfl (by decide) rfl ?_
    refine y_gt (q := 26) (q' := 11) rfl rfl (by decide) rfl rfl (fun c3 => ?_) (fun c4 => ?_)
    · skip
      refine y_ldc2_w (u := (-4611686018427387904)) (q := 29) rfl rfl rfl ?_
      exact y_retL rfl rfl rfl
    · skip
      refine y_iload_n (q := 12) rfl rfl rfl ?_
      refine y_callP (I := .invokestatic 192) (idx := 192) (KD := 0) (J := 112) (mj := mj102) (as := [.int v3]) (r := []) (q := 15) rfl (fun _ _ _ _ _ _ => rfl) rfl (by decide) rfl rfl rfl rfl rfl (Nat.le_of_ble_eq_true rfl) rfl rfl (m_X6_isFriends (Nat.le_trans (by decide) hd) v3 h) (fun r5 => ?_)
      refine y_eq0 (q := 26) (q' := 18) rfl rfl rfl rfl (fun c6 => ?_) (fun c7 => ?_)
      · skip
        refine y_ldc2_w (u := (-4611686018427387904)) (q := 29) rfl rfl rfl ?_
        exact y_retL rfl rfl rfl
      · skip
        refine y_iload (q := 20) rfl rfl rfl ?_
        refine y_callP (I := .invokestatic 154) (idx := 154) (KD := 0) (J := 113) (mj := mj103) (as := [.int v4]) (r := []) (q := 23) rfl (fun _ _ _ _ _ _ => rfl) rfl (by decide) rfl rfl rfl rfl rfl (Nat.le_of_ble_eq_true rfl) rfl rfl (m_X6_isEither (Nat.le_trans (by decide) hd) v4 h) (fun r8 => ?_)
        refine y_ne0 (q := 30) (q' := 26) rfl rfl rfl rfl (fun c9 => ?_) (fun c10 => ?_)
        · skip
          refine y_ldc2_w (u := (-4611686018427387904)) (q := 29) rfl rfl rfl ?_
          exact y_retL rfl rfl rfl
        · skip
          refine y_iconst (x := 0) (q := 31) rfl (by decide) rfl ?_
          refine y_istore (lo' := [some (.ref 0), some (.int v1), some (.int v2), some (.int v3), some (.int v4), some (.int 0), none]) (q := 33) rfl (Nat.le_of_ble_eq_true rfl) rfl rfl ?_
          refine y_iconst (x := 0) (q := 34) rfl (by decide) rfl ?_
          refine y_istore (lo' := [some (.ref 0), some (.int v1), some (.int v2), some (.int v3), some (.int v4), some (.int 0), some (.int 0)]) (q := 36) rfl (Nat.le_of_ble_eq_true rfl) rfl rfl ?_
          refine lz_X6_chance_36 hd v1 v2 v3 v4  _ (fun v5_17 z18 g19 => ?_) fuel0 0 0 h 
          refine y_iload (q := 66) rfl rfl rfl ?_
          refine y_iload_n (q := 67) rfl rfl rfl ?_
          refine y_callP (I := .invokestatic 249) (idx := 249) (KD := 0) (J := 120) (mj := mj110) (as := [.int v5_17, .int v2]) (r := []) (q := 70) rfl (fun _ _ _ _ _ _ => rfl) rfl (by decide) rfl rfl rfl rfl rfl (Nat.le_of_ble_eq_true rfl) rfl rfl (m_X6_commonDivisor (Nat.le_trans (by decide) hd) v5_17 v2 g19) (fun r20 => ?_)
          refine y_istore (lo' := [some (.ref 0), some (.int v1), some (.int v2), some (.int v3), some (.int v4), some (.int v5_17), some (.int r20)]) (q := 72) rfl (Nat.le_of_ble_eq_true rfl) rfl rfl ?_
          refine y_iload (q := 74) rfl rfl rfl ?_
          refine y_ne0 (q := 82) (q' := 77) rfl rfl rfl rfl (fun c21 => ?_) (fun c22 => ?_)
          · skip
            refine y_iload (q := 79) rfl rfl rfl ?_
            refine y_goto (q := 83) rfl rfl ?_
            refine y_iload (q := 85) rfl rfl rfl ?_
            refine y_guard (fun c23 => ?_)
            refine y_idiv (q := 86) rfl c23 rfl ?_
            refine y_i2l (q := 87) rfl rfl ?_
            exact y_retL rfl rfl rfl
          · skip
            refine y_iload_n (q := 83) rfl rfl rfl ?_
            refine y_iload (q := 85) rfl rfl rfl ?_
            refine y_guard (fun c24 => ?_)
            refine y_idiv (q := 86) rfl c24 rfl ?_
            refine y_i2l (q := 87) rfl rfl ?_
            exact y_retL rfl rfl rfl
def f_X6_image  (h : dH) : Option (Int32 × dH) := oV (f_X3_become 71 43 h) (fun g1 => oH (dU g1 0 7 1) (fun g2 => some ((g2 43 2), g2)))
theorem m_X6_image {d : Nat} (hd : 2 ≤ d)  (h : dH) : dX shC d 89 [.ref 0] dI (f_X6_image  h) h := by
  obtain ⟨e, rfl⟩ : ∃ e, d = e + 1 := ⟨d - 1, by omega⟩
  have hd : 1 ≤ e := by omega
  refine dX_of (mj := mj89) (lo := [some (.ref 0)]) rfl (Nat.le_of_ble_eq_true rfl) rfl ?_
  unfold f_X6_image
  refine y_aload_n (q := 1) rfl rfl rfl ?_
  refine y_getR (b := 71) (q := 4) rfl rfl (by decide) atC0 rfl rfl ?_
  refine y_aload_n (q := 5) rfl rfl rfl ?_
  refine y_getR (b := 43) (q := 8) rfl rfl (by decide) atC0 rfl rfl ?_
  refine y_callV (I := .invokevirtual 186) (idx := 186) (KD := 1) (J := 38) (mj := mj28) (as := [.ref 71, .ref 43]) (r := []) (q := 11) rfl (fun _ _ _ _ _ _ => rfl) rfl (by decide) rfl rfl rfl rfl rfl (Nat.le_of_ble_eq_true rfl) (d_recv (shS zS71) (by decide) (by decide)) rfl (m_X3_become (Nat.le_trans (by decide) hd) 71 zS71 43 zS43 h) (fun g1 => ?_)
  refine y_aload_n (q := 12) rfl rfl rfl ?_
  refine y_iconst (x := 1) (q := 13) rfl (by decide) rfl ?_
  refine y_putI (q := 16) rfl rfl (by decide) atC0 rfl rfl rfl rfl (fun g2 => ?_)
  refine y_aload_n (q := 17) rfl rfl rfl ?_
  refine y_getR (b := 43) (q := 20) rfl rfl (by decide) atC0 rfl rfl ?_
  refine y_getI (q := 23) rfl rfl (by decide) (shS zS43) rfl rfl ?_
  exact y_retI rfl (by decide) rfl rfl
def f_X6_back  (h : dH) : Option (Int32 × dH) := if (h 0 7).toInt = 0 then (some ((-3), h)) else (oV (f_X3_become 43 71 h) (fun g3 => some ((g3 43 2), g3)))
theorem m_X6_back {d : Nat} (hd : 2 ≤ d)  (h : dH) : dX shC d 90 [.ref 0] dI (f_X6_back  h) h := by
  obtain ⟨e, rfl⟩ : ∃ e, d = e + 1 := ⟨d - 1, by omega⟩
  have hd : 1 ≤ e := by omega
  refine dX_of (mj := mj90) (lo := [some (.ref 0)]) rfl (Nat.le_of_ble_eq_true rfl) rfl ?_
  unfold f_X6_back
  refine y_aload_n (q := 1) rfl rfl rfl ?_
  refine y_getI (q := 4) rfl rfl (by decide) atC0 rfl rfl ?_
  refine y_ne0 (q := 10) (q' := 7) rfl rfl rfl rfl (fun c1 => ?_) (fun c2 => ?_)
  · skip
    refine y_bipush (x := (-3)) (q := 9) rfl (by decide) rfl ?_
    exact y_retI rfl (by decide) rfl rfl
  · skip
    refine y_aload_n (q := 11) rfl rfl rfl ?_
    refine y_getR (b := 43) (q := 14) rfl rfl (by decide) atC0 rfl rfl ?_
    refine y_aload_n (q := 15) rfl rfl rfl ?_
    refine y_getR (b := 71) (q := 18) rfl rfl (by decide) atC0 rfl rfl ?_
    refine y_callV (I := .invokevirtual 186) (idx := 186) (KD := 1) (J := 38) (mj := mj28) (as := [.ref 43, .ref 71]) (r := []) (q := 21) rfl (fun _ _ _ _ _ _ => rfl) rfl (by decide) rfl rfl rfl rfl rfl (Nat.le_of_ble_eq_true rfl) (d_recv (shS zS43) (by decide) (by decide)) rfl (m_X3_become (Nat.le_trans (by decide) hd) 43 zS43 71 zS71 h) (fun g3 => ?_)
    refine y_aload_n (q := 22) rfl rfl rfl ?_
    refine y_getR (b := 43) (q := 25) rfl rfl (by decide) atC0 rfl rfl ?_
    refine y_getI (q := 28) rfl rfl (by decide) (shS zS43) rfl rfl ?_
    exact y_retI rfl (by decide) rfl rfl
def f_X6_count (v1 : Int32) (h : dH) : Option (Int32) := if v1.toInt = 0 then ((some (h 43 2))) else (if v1.toInt = 1 then (oP (f_X3_seated 43 h) (fun r5 => (some r5))) else (if v1.toInt = 2 then ((some (h 43 0))) else (if v1.toInt = 3 then ((some (h 0 3))) else (if v1.toInt = 4 then ((some (h 1 0))) else (if v1.toInt = 5 then ((some (dti (dtx (h 43 3))))) else ((some (-2))))))))
theorem m_X6_count {d : Nat} (hd : 3 ≤ d) (v1 : Int32) (h : dH) : dX shC d 91 [.ref 0, .int v1] (dP h) (f_X6_count v1 h) h := by
  obtain ⟨e, rfl⟩ : ∃ e, d = e + 1 := ⟨d - 1, by omega⟩
  have hd : 2 ≤ e := by omega
  refine dX_of (mj := mj91) (lo := [some (.ref 0), some (.int v1)]) rfl (Nat.le_of_ble_eq_true rfl) rfl ?_
  unfold f_X6_count
  refine y_iload_n (q := 1) rfl rfl rfl ?_
  refine dY_ite (fun c1 => ?_) (fun c2 => ?_)
  · skip
    refine y_tabI (q := 40) 0 rfl c1 (by decide) (by decide) rfl rfl ?_
    refine y_aload_n (q := 41) rfl rfl rfl ?_
    refine y_getR (b := 43) (q := 44) rfl rfl (by decide) atC0 rfl rfl ?_
    refine y_getI (q := 47) rfl rfl (by decide) (shS zS43) rfl rfl ?_
    exact y_retP rfl (by decide) rfl rfl
  refine dY_ite (fun c3 => ?_) (fun c4 => ?_)
  · skip
    refine y_tabI (q := 48) 1 rfl c3 (by decide) (by decide) rfl rfl ?_
    refine y_aload_n (q := 49) rfl rfl rfl ?_
    refine y_getR (b := 43) (q := 52) rfl rfl (by decide) atC0 rfl rfl ?_
    refine y_callP (I := .invokevirtual 256) (idx := 256) (KD := 1) (J := 46) (mj := mj36) (as := [.ref 43]) (r := []) (q := 55) rfl (fun _ _ _ _ _ _ => rfl) rfl (by decide) rfl rfl rfl rfl rfl (Nat.le_of_ble_eq_true rfl) (d_recv (shS zS43) (by decide) (by decide)) rfl (m_X3_seated (Nat.le_trans (by decide) hd) 43 zS43 h) (fun r5 => ?_)
    exact y_retP rfl (by decide) rfl rfl
  refine dY_ite (fun c6 => ?_) (fun c7 => ?_)
  · skip
    refine y_tabI (q := 56) 2 rfl c6 (by decide) (by decide) rfl rfl ?_
    refine y_aload_n (q := 57) rfl rfl rfl ?_
    refine y_getR (b := 43) (q := 60) rfl rfl (by decide) atC0 rfl rfl ?_
    refine y_getI (q := 63) rfl rfl (by decide) (shS zS43) rfl rfl ?_
    exact y_retP rfl (by decide) rfl rfl
  refine dY_ite (fun c8 => ?_) (fun c9 => ?_)
  · skip
    refine y_tabI (q := 64) 3 rfl c8 (by decide) (by decide) rfl rfl ?_
    refine y_aload_n (q := 65) rfl rfl rfl ?_
    refine y_getI (q := 68) rfl rfl (by decide) atC0 rfl rfl ?_
    exact y_retP rfl (by decide) rfl rfl
  refine dY_ite (fun c10 => ?_) (fun c11 => ?_)
  · skip
    refine y_tabI (q := 69) 4 rfl c10 (by decide) (by decide) rfl rfl ?_
    refine y_aload_n (q := 70) rfl rfl rfl ?_
    refine y_getR (b := 1) (q := 73) rfl rfl (by decide) atC0 rfl rfl ?_
    refine y_getI (q := 76) rfl rfl (by decide) atC1 rfl rfl ?_
    exact y_retP rfl (by decide) rfl rfl
  refine dY_ite (fun c12 => ?_) (fun c13 => ?_)
  · skip
    refine y_tabI (q := 77) 5 rfl c12 (by decide) (by decide) rfl rfl ?_
    refine y_aload_n (q := 78) rfl rfl rfl ?_
    refine y_getR (b := 43) (q := 81) rfl rfl (by decide) atC0 rfl rfl ?_
    refine y_getT (q := 84) rfl rfl (by decide) (shS zS43) rfl rfl ?_
    refine y_getK (n := ((dtx (h 43 3)) - 10) / 4) (x := dti (dtx (h 43 3))) (q := 87) rfl rfl (by decide) (shT (zT_dtx _)) rfl (shTp (zT_dtx _)) rfl rfl ?_
    exact y_retP rfl (by decide) rfl rfl
  refine y_tabD (q := 88) rfl (by omega) rfl ?_
  refine y_bipush (x := (-2)) (q := 90) rfl (by decide) rfl ?_
  exact y_retP rfl (by decide) rfl rfl
def f_X6_isSort (v0 : Int32) : Option (Int32) := if v0.toInt < 0 then ((some 0)) else (if v0.toInt < 3 then ((some 1)) else ((some 0)))
theorem m_X6_isSort {d : Nat} (hd : 1 ≤ d) (v0 : Int32) (h : dH) : dX shC d 100 [.int v0] (dP h) (f_X6_isSort v0) h := by
  obtain ⟨e, rfl⟩ : ∃ e, d = e + 1 := ⟨d - 1, by omega⟩
  have hd : 0 ≤ e := by omega
  refine dX_of (mj := mj100) (lo := [some (.int v0)]) rfl (Nat.le_of_ble_eq_true rfl) rfl ?_
  unfold f_X6_isSort
  refine y_iload_n (q := 1) rfl rfl rfl ?_
  refine y_lt0 (q := 13) (q' := 4) rfl rfl rfl rfl (fun c1 => ?_) (fun c2 => ?_)
  · skip
    refine y_iconst (x := 0) (q := 14) rfl (by decide) rfl ?_
    exact y_retP rfl (by decide) rfl rfl
  · skip
    refine y_iload_n (q := 5) rfl rfl rfl ?_
    refine y_iconst (x := 3) (q := 6) rfl (by decide) rfl ?_
    refine y_ge (q := 13) (q' := 9) rfl rfl (by decide) rfl rfl (fun c3 => ?_) (fun c4 => ?_)
    · skip
      refine y_iconst (x := 1) (q := 10) rfl (by decide) rfl ?_
      refine y_goto (q := 14) rfl rfl ?_
      exact y_retP rfl (by decide) rfl rfl
    · skip
      refine y_iconst (x := 0) (q := 14) rfl (by decide) rfl ?_
      exact y_retP rfl (by decide) rfl rfl
def f_X6_sheet (v1 : Int32) (v2 : Int32) (v3 : Int32) (h : dH) : Option (Int32 × dH) := oP (f_X6_isSheet v1) (fun r1 => if r1.toInt = 0 then (some ((-2), h)) else (if v2.toInt = (-1) then (if v2.toInt = (-1) then (if 0 ≤ v1.toInt ∧ v1.toInt < 4 then (oV (f_X2_lay (34 + 2 * v1.toInt.toNat) (-1) 0 h) (fun g9 => some (1, g9))) else none) else (if 40 < v3.toInt then (some ((-2), h)) else (if v3.toInt < 0 then (some ((-14), h)) else (if 0 ≤ v1.toInt ∧ v1.toInt < 4 then (oV (f_X2_lay (34 + 2 * v1.toInt.toNat) v2 v3 h) (fun g15 => some (1, g15))) else none)))) else (oP (f_X6_isSort v2) (fun r16 => if r16.toInt = 0 then (some ((-2), h)) else (if v2.toInt = (-1) then (if 0 ≤ v1.toInt ∧ v1.toInt < 4 then (oV (f_X2_lay (34 + 2 * v1.toInt.toNat) (-1) 0 h) (fun g22 => some (1, g22))) else none) else (if 40 < v3.toInt then (some ((-2), h)) else (if v3.toInt < 0 then (some ((-14), h)) else (if 0 ≤ v1.toInt ∧ v1.toInt < 4 then (oV (f_X2_lay (34 + 2 * v1.toInt.toNat) v2 v3 h) (fun g28 => some (1, g28))) else none))))))))
theorem m_X6_sheet {d : Nat} (hd : 2 ≤ d) (v1 : Int32) (v2 : Int32) (v3 : Int32) (h : dH) : dX shC d 92 [.ref 0, .int v1, .int v2, .int v3] dI (f_X6_sheet v1 v2 v3 h) h := by
  obtain ⟨e, rfl⟩ : ∃ e, d = e + 1 := ⟨d - 1, by omega⟩
  have hd : 1 ≤ e := by omega
  refine dX_of (mj := mj92) (lo := [some (.ref 0), some (.int v1), some (.int v2), some (.int v3)]) rfl (Nat.le_of_ble_eq_true rfl) rfl ?_
  unfold f_X6_sheet
  refine y_iload_n (q := 1) rfl rfl rfl ?_
  refine y_callP (I := .invokestatic 217) (idx := 217) (KD := 0) (J := 109) (mj := mj99) (as := [.int v1]) (r := []) (q := 4) rfl (fun _ _ _ _ _ _ => rfl) rfl (by decide) rfl rfl rfl rfl rfl (Nat.le_of_ble_eq_true rfl) rfl rfl (m_X6_isSheet (Nat.le_trans (by decide) hd) v1 h) (fun r1 => ?_)
  refine y_eq0 (q := 19) (q' := 7) rfl rfl rfl rfl (fun c2 => ?_) (fun c3 => ?_)
  · skip
    refine y_bipush (x := (-2)) (q := 21) rfl (by decide) rfl ?_
    exact y_retI rfl (by decide) rfl rfl
  · skip
    refine y_iload_n (q := 8) rfl rfl rfl ?_
    refine y_iconst (x := (-1)) (q := 9) rfl (by decide) rfl ?_
    refine y_eq (q := 22) (q' := 12) rfl rfl (by decide) rfl rfl (fun c4 => ?_) (fun c5 => ?_)
    · skip
      refine y_iload_n (q := 23) rfl rfl rfl ?_
      refine y_iconst (x := (-1)) (q := 24) rfl (by decide) rfl ?_
      refine y_ne (q := 40) (q' := 27) rfl rfl (by decide) rfl rfl (fun c6 => ?_) (fun c7 => ?_)
      · skip
        refine y_aload_n (q := 28) rfl rfl rfl ?_
        refine y_getR (b := 9) (q := 31) rfl rfl (by decide) atC0 rfl rfl ?_
        refine y_iload_n (q := 32) rfl rfl rfl ?_
        refine y_guard (fun c8 => ?_)
        refine y_aald (b := (34 + 2 * v1.toInt.toNat)) (K := v1.toInt.toNat) (X := v1.toInt) (q := 33) hbC rfl atC9 (by decide) rfl c8.1 rfl (at9k (by omega : v1.toInt.toNat < 4)) rfl ?_
        refine y_iconst (x := (-1)) (q := 34) rfl (by decide) rfl ?_
        refine y_iconst (x := 0) (q := 35) rfl (by decide) rfl ?_
        refine y_callV (I := .invokevirtual 239) (idx := 239) (KD := 1) (J := 33) (mj := mj23) (as := [.ref (34 + 2 * v1.toInt.toNat), .int (-1), .int 0]) (r := []) (q := 38) rfl (fun _ _ _ _ _ _ => rfl) rfl (by decide) rfl rfl rfl rfl rfl (Nat.le_of_ble_eq_true rfl) (d_recv (shW (zW4 (by omega : v1.toInt.toNat < 4))) (by decide) (by decide)) rfl (m_X2_lay (Nat.le_trans (by decide) hd) (34 + 2 * v1.toInt.toNat) (zW4 (by omega : v1.toInt.toNat < 4)) (-1) 0 h) (fun g9 => ?_)
        refine y_iconst (x := 1) (q := 39) rfl (by decide) rfl ?_
        exact y_retI rfl (by decide) rfl rfl
      · skip
        refine y_iload_n (q := 41) rfl rfl rfl ?_
        refine y_bipush (x := 40) (q := 43) rfl (by decide) rfl ?_
        refine y_le (q := 49) (q' := 46) rfl rfl (by decide) rfl rfl (fun c10 => ?_) (fun c11 => ?_)
        · skip
          refine y_bipush (x := (-2)) (q := 48) rfl (by decide) rfl ?_
          exact y_retI rfl (by decide) rfl rfl
        · skip
          refine y_iload_n (q := 50) rfl rfl rfl ?_
          refine y_ge0 (q := 56) (q' := 53) rfl rfl rfl rfl (fun c12 => ?_) (fun c13 => ?_)
          · skip
            refine y_bipush (x := (-14)) (q := 55) rfl (by decide) rfl ?_
            exact y_retI rfl (by decide) rfl rfl
          · skip
            refine y_aload_n (q := 57) rfl rfl rfl ?_
            refine y_getR (b := 9) (q := 60) rfl rfl (by decide) atC0 rfl rfl ?_
            refine y_iload_n (q := 61) rfl rfl rfl ?_
            refine y_guard (fun c14 => ?_)
            refine y_aald (b := (34 + 2 * v1.toInt.toNat)) (K := v1.toInt.toNat) (X := v1.toInt) (q := 62) hbC rfl atC9 (by decide) rfl c14.1 rfl (at9k (by omega : v1.toInt.toNat < 4)) rfl ?_
            refine y_iload_n (q := 63) rfl rfl rfl ?_
            refine y_iload_n (q := 64) rfl rfl rfl ?_
            refine y_callV (I := .invokevirtual 239) (idx := 239) (KD := 1) (J := 33) (mj := mj23) (as := [.ref (34 + 2 * v1.toInt.toNat), .int v2, .int v3]) (r := []) (q := 67) rfl (fun _ _ _ _ _ _ => rfl) rfl (by decide) rfl rfl rfl rfl rfl (Nat.le_of_ble_eq_true rfl) (d_recv (shW (zW4 (by omega : v1.toInt.toNat < 4))) (by decide) (by decide)) rfl (m_X2_lay (Nat.le_trans (by decide) hd) (34 + 2 * v1.toInt.toNat) (zW4 (by omega : v1.toInt.toNat < 4)) v2 v3 h) (fun g15 => ?_)
            refine y_iconst (x := 1) (q := 68) rfl (by decide) rfl ?_
            exact y_retI rfl (by decide) rfl rfl
    · skip
      refine y_iload_n (q := 13) rfl rfl rfl ?_
      refine y_callP (I := .invokestatic 259) (idx := 259) (KD := 0) (J := 110) (mj := mj100) (as := [.int v2]) (r := []) (q := 16) rfl (fun _ _ _ _ _ _ => rfl) rfl (by decide) rfl rfl rfl rfl rfl (Nat.le_of_ble_eq_true rfl) rfl rfl (m_X6_isSort (Nat.le_trans (by decide) hd) v2 h) (fun r16 => ?_)
      refine y_ne0 (q := 22) (q' := 19) rfl rfl rfl rfl (fun c17 => ?_) (fun c18 => ?_)
      · skip
        refine y_bipush (x := (-2)) (q := 21) rfl (by decide) rfl ?_
        exact y_retI rfl (by decide) rfl rfl
      · skip
        refine y_iload_n (q := 23) rfl rfl rfl ?_
        refine y_iconst (x := (-1)) (q := 24) rfl (by decide) rfl ?_
        refine y_ne (q := 40) (q' := 27) rfl rfl (by decide) rfl rfl (fun c19 => ?_) (fun c20 => ?_)
        · skip
          refine y_aload_n (q := 28) rfl rfl rfl ?_
          refine y_getR (b := 9) (q := 31) rfl rfl (by decide) atC0 rfl rfl ?_
          refine y_iload_n (q := 32) rfl rfl rfl ?_
          refine y_guard (fun c21 => ?_)
          refine y_aald (b := (34 + 2 * v1.toInt.toNat)) (K := v1.toInt.toNat) (X := v1.toInt) (q := 33) hbC rfl atC9 (by decide) rfl c21.1 rfl (at9k (by omega : v1.toInt.toNat < 4)) rfl ?_
          refine y_iconst (x := (-1)) (q := 34) rfl (by decide) rfl ?_
          refine y_iconst (x := 0) (q := 35) rfl (by decide) rfl ?_
          refine y_callV (I := .invokevirtual 239) (idx := 239) (KD := 1) (J := 33) (mj := mj23) (as := [.ref (34 + 2 * v1.toInt.toNat), .int (-1), .int 0]) (r := []) (q := 38) rfl (fun _ _ _ _ _ _ => rfl) rfl (by decide) rfl rfl rfl rfl rfl (Nat.le_of_ble_eq_true rfl) (d_recv (shW (zW4 (by omega : v1.toInt.toNat < 4))) (by decide) (by decide)) rfl (m_X2_lay (Nat.le_trans (by decide) hd) (34 + 2 * v1.toInt.toNat) (zW4 (by omega : v1.toInt.toNat < 4)) (-1) 0 h) (fun g22 => ?_)
          refine y_iconst (x := 1) (q := 39) rfl (by decide) rfl ?_
          exact y_retI rfl (by decide) rfl rfl
        · skip
          refine y_iload_n (q := 41) rfl rfl rfl ?_
          refine y_bipush (x := 40) (q := 43) rfl (by decide) rfl ?_
          refine y_le (q := 49) (q' := 46) rfl rfl (by decide) rfl rfl (fun c23 => ?_) (fun c24 => ?_)
          · skip
            refine y_bipush (x := (-2)) (q := 48) rfl (by decide) rfl ?_
            exact y_retI rfl (by decide) rfl rfl
          · skip
            refine y_iload_n (q := 50) rfl rfl rfl ?_
            refine y_ge0 (q := 56) (q' := 53) rfl rfl rfl rfl (fun c25 => ?_) (fun c26 => ?_)
            · skip
              refine y_bipush (x := (-14)) (q := 55) rfl (by decide) rfl ?_
              exact y_retI rfl (by decide) rfl rfl
            · skip
              refine y_aload_n (q := 57) rfl rfl rfl ?_
              refine y_getR (b := 9) (q := 60) rfl rfl (by decide) atC0 rfl rfl ?_
              refine y_iload_n (q := 61) rfl rfl rfl ?_
              refine y_guard (fun c27 => ?_)
              refine y_aald (b := (34 + 2 * v1.toInt.toNat)) (K := v1.toInt.toNat) (X := v1.toInt) (q := 62) hbC rfl atC9 (by decide) rfl c27.1 rfl (at9k (by omega : v1.toInt.toNat < 4)) rfl ?_
              refine y_iload_n (q := 63) rfl rfl rfl ?_
              refine y_iload_n (q := 64) rfl rfl rfl ?_
              refine y_callV (I := .invokevirtual 239) (idx := 239) (KD := 1) (J := 33) (mj := mj23) (as := [.ref (34 + 2 * v1.toInt.toNat), .int v2, .int v3]) (r := []) (q := 67) rfl (fun _ _ _ _ _ _ => rfl) rfl (by decide) rfl rfl rfl rfl rfl (Nat.le_of_ble_eq_true rfl) (d_recv (shW (zW4 (by omega : v1.toInt.toNat < 4))) (by decide) (by decide)) rfl (m_X2_lay (Nat.le_trans (by decide) hd) (34 + 2 * v1.toInt.toNat) (zW4 (by omega : v1.toInt.toNat < 4)) v2 v3 h) (fun g28 => ?_)
              refine y_iconst (x := 1) (q := 68) rfl (by decide) rfl ?_
              exact y_retI rfl (by decide) rfl rfl
def f_X6_cell (v1 : Int32) (v2 : Int32) (v3 : Int32) (h : dH) : Option (Int32 × dH) := oP (f_X6_isSheet v1) (fun r1 => if r1.toInt = 0 then (some ((-2), h)) else (if 0 ≤ v1.toInt ∧ v1.toInt < 4 then (oP (f_X2_isMissing (34 + 2 * v1.toInt.toNat) h) (fun r5 => if r5.toInt = 0 then (oP (f_X2_holds (34 + 2 * v1.toInt.toNat) v2 1 h) (fun r8 => if r8.toInt = 0 then (some ((-12), h)) else (oV (f_X2_put (34 + 2 * v1.toInt.toNat) v2 v3 h) (fun g11 => some (1, g11))))) else (some ((-11), h)))) else none))
theorem m_X6_cell {d : Nat} (hd : 2 ≤ d) (v1 : Int32) (v2 : Int32) (v3 : Int32) (h : dH) : dX shC d 93 [.ref 0, .int v1, .int v2, .int v3] dI (f_X6_cell v1 v2 v3 h) h := by
  obtain ⟨e, rfl⟩ : ∃ e, d = e + 1 := ⟨d - 1, by omega⟩
  have hd : 1 ≤ e := by omega
  refine dX_of (mj := mj93) (lo := [some (.ref 0), some (.int v1), some (.int v2), some (.int v3), none]) rfl (Nat.le_of_ble_eq_true rfl) rfl ?_
  unfold f_X6_cell
  refine y_iload_n (q := 1) rfl rfl rfl ?_
  refine y_callP (I := .invokestatic 217) (idx := 217) (KD := 0) (J := 109) (mj := mj99) (as := [.int v1]) (r := []) (q := 4) rfl (fun _ _ _ _ _ _ => rfl) rfl (by decide) rfl rfl rfl rfl rfl (Nat.le_of_ble_eq_true rfl) rfl rfl (m_X6_isSheet (Nat.le_trans (by decide) hd) v1 h) (fun r1 => ?_)
  refine y_ne0 (q := 10) (q' := 7) rfl rfl rfl rfl (fun c2 => ?_) (fun c3 => ?_)
  · skip
    refine y_bipush (x := (-2)) (q := 9) rfl (by decide) rfl ?_
    exact y_retI rfl (by decide) rfl rfl
  · skip
    refine y_aload_n (q := 11) rfl rfl rfl ?_
    refine y_getR (b := 9) (q := 14) rfl rfl (by decide) atC0 rfl rfl ?_
    refine y_iload_n (q := 15) rfl rfl rfl ?_
    refine y_guard (fun c4 => ?_)
    refine y_aald (b := (34 + 2 * v1.toInt.toNat)) (K := v1.toInt.toNat) (X := v1.toInt) (q := 16) hbC rfl atC9 (by decide) rfl c4.1 rfl (at9k (by omega : v1.toInt.toNat < 4)) rfl ?_
    refine y_astore (lo' := [some (.ref 0), some (.int v1), some (.int v2), some (.int v3), some (.ref (34 + 2 * v1.toInt.toNat))]) (q := 18) rfl (Nat.le_of_ble_eq_true rfl) rfl rfl ?_
    refine y_aload (q := 20) rfl rfl rfl ?_
    refine y_callP (I := .invokevirtual 220) (idx := 220) (KD := 1) (J := 32) (mj := mj22) (as := [.ref (34 + 2 * v1.toInt.toNat)]) (r := []) (q := 23) rfl (fun _ _ _ _ _ _ => rfl) rfl (by decide) rfl rfl rfl rfl rfl (Nat.le_of_ble_eq_true rfl) (d_recv (shW (zW4 (by omega : v1.toInt.toNat < 4))) (by decide) (by decide)) rfl (m_X2_isMissing (Nat.le_trans (by decide) hd) (34 + 2 * v1.toInt.toNat) (zW4 (by omega : v1.toInt.toNat < 4)) h) (fun r5 => ?_)
    refine y_eq0 (q := 29) (q' := 26) rfl rfl rfl rfl (fun c6 => ?_) (fun c7 => ?_)
    · skip
      refine y_aload (q := 31) rfl rfl rfl ?_
      refine y_iload_n (q := 32) rfl rfl rfl ?_
      refine y_iconst (x := 1) (q := 33) rfl (by decide) rfl ?_
      refine y_callP (I := .invokevirtual 262) (idx := 262) (KD := 1) (J := 34) (mj := mj24) (as := [.ref (34 + 2 * v1.toInt.toNat), .int v2, .int 1]) (r := []) (q := 36) rfl (fun _ _ _ _ _ _ => rfl) rfl (by decide) rfl rfl rfl rfl rfl (Nat.le_of_ble_eq_true rfl) (d_recv (shW (zW4 (by omega : v1.toInt.toNat < 4))) (by decide) (by decide)) rfl (m_X2_holds (Nat.le_trans (by decide) hd) (34 + 2 * v1.toInt.toNat) (zW4 (by omega : v1.toInt.toNat < 4)) v2 1 h) (fun r8 => ?_)
      refine y_ne0 (q := 42) (q' := 39) rfl rfl rfl rfl (fun c9 => ?_) (fun c10 => ?_)
      · skip
        refine y_bipush (x := (-12)) (q := 41) rfl (by decide) rfl ?_
        exact y_retI rfl (by decide) rfl rfl
      · skip
        refine y_aload (q := 44) rfl rfl rfl ?_
        refine y_iload_n (q := 45) rfl rfl rfl ?_
        refine y_iload_n (q := 46) rfl rfl rfl ?_
        refine y_callV (I := .invokevirtual 242) (idx := 242) (KD := 1) (J := 35) (mj := mj25) (as := [.ref (34 + 2 * v1.toInt.toNat), .int v2, .int v3]) (r := []) (q := 49) rfl (fun _ _ _ _ _ _ => rfl) rfl (by decide) rfl rfl rfl rfl rfl (Nat.le_of_ble_eq_true rfl) (d_recv (shW (zW4 (by omega : v1.toInt.toNat < 4))) (by decide) (by decide)) rfl (m_X2_put (Nat.le_trans (by decide) hd) (34 + 2 * v1.toInt.toNat) (zW4 (by omega : v1.toInt.toNat < 4)) v2 v3 h) (fun g11 => ?_)
        refine y_iconst (x := 1) (q := 50) rfl (by decide) rfl ?_
        exact y_retI rfl (by decide) rfl rfl
    · skip
      refine y_bipush (x := (-11)) (q := 28) rfl (by decide) rfl ?_
      exact y_retI rfl (by decide) rfl rfl
def f_X6_copy (v1 : Int32) (v2 : Int32) (v3 : Int32) (v4 : Int32) (v5 : Int32) (h : dH) : Option (Int32 × dH) := oP (f_X6_isSheet v1) (fun r1 => if r1.toInt = 0 then (some ((-2), h)) else (oP (f_X6_isSheet v3) (fun r4 => if r4.toInt = 0 then (some ((-2), h)) else (if 0 ≤ v1.toInt ∧ v1.toInt < 4 then (if 0 ≤ v3.toInt ∧ v3.toInt < 4 then (oP (f_X2_isMissing (34 + 2 * v1.toInt.toNat) h) (fun r9 => if r9.toInt = 0 then (oP (f_X2_isMissing (34 + 2 * v3.toInt.toNat) h) (fun r12 => if r12.toInt = 0 then (if (h (34 + 2 * v1.toInt.toNat) 0).toInt = (h (34 + 2 * v3.toInt.toNat) 0).toInt then (oP (f_X2_holds (34 + 2 * v1.toInt.toNat) v2 v5 h) (fun r17 => if r17.toInt = 0 then (some ((-12), h)) else (oP (f_X2_holds (34 + 2 * v3.toInt.toNat) v4 v5 h) (fun r20 => if r20.toInt = 0 then (some ((-12), h)) else (if 0 ≤ v5.toInt ∧ 0 ≤ v4.toInt ∧ 0 ≤ v2.toInt ∧ v2.toInt.toNat + v5.toInt.toNat ≤ 40 ∧ v4.toInt.toNat + v5.toInt.toNat ≤ 40 then (oH (dcopy h ((34 + 2 * v1.toInt.toNat) + 1) (v2.toInt.toNat) ((34 + 2 * v3.toInt.toNat) + 1) (v4.toInt.toNat) (v5.toInt.toNat)) (fun g23 => some (v5, g23))) else none))))) else (some ((-13), h))) else (some ((-11), h)))) else (some ((-11), h)))) else none) else none))))
theorem m_X6_copy {d : Nat} (hd : 2 ≤ d) (v1 : Int32) (v2 : Int32) (v3 : Int32) (v4 : Int32) (v5 : Int32) (h : dH) : dX shC d 94 [.ref 0, .int v1, .int v2, .int v3, .int v4, .int v5] dI (f_X6_copy v1 v2 v3 v4 v5 h) h := by
  obtain ⟨e, rfl⟩ : ∃ e, d = e + 1 := ⟨d - 1, by omega⟩
  have hd : 1 ≤ e := by omega
  refine dX_of (mj := mj94) (lo := [some (.ref 0), some (.int v1), some (.int v2), some (.int v3), some (.int v4), some (.int v5), none, none]) rfl (Nat.le_of_ble_eq_true rfl) rfl ?_
  unfold f_X6_copy
  refine y_iload_n (q := 1) rfl rfl rfl ?_
  refine y_callP (I := .invokestatic 217) (idx := 217) (KD := 0) (J := 109) (mj := mj99) (as := [.int v1]) (r := []) (q := 4) rfl (fun _ _ _ _ _ _ => rfl) rfl (by decide) rfl rfl rfl rfl rfl (Nat.le_of_ble_eq_true rfl) rfl rfl (m_X6_isSheet (Nat.le_trans (by decide) hd) v1 h) (fun r1 => ?_)
  refine y_eq0 (q := 14) (q' := 7) rfl rfl rfl rfl (fun c2 => ?_) (fun c3 => ?_)
  · skip
    refine y_bipush (x := (-2)) (q := 16) rfl (by decide) rfl ?_
    exact y_retI rfl (by decide) rfl rfl
  · skip
    refine y_iload_n (q := 8) rfl rfl rfl ?_
    refine y_callP (I := .invokestatic 217) (idx := 217) (KD := 0) (J := 109) (mj := mj99) (as := [.int v3]) (r := []) (q := 11) rfl (fun _ _ _ _ _ _ => rfl) rfl (by decide) rfl rfl rfl rfl rfl (Nat.le_of_ble_eq_true rfl) rfl rfl (m_X6_isSheet (Nat.le_trans (by decide) hd) v3 h) (fun r4 => ?_)
    refine y_ne0 (q := 17) (q' := 14) rfl rfl rfl rfl (fun c5 => ?_) (fun c6 => ?_)
    · skip
      refine y_bipush (x := (-2)) (q := 16) rfl (by decide) rfl ?_
      exact y_retI rfl (by decide) rfl rfl
    · skip
      refine y_aload_n (q := 18) rfl rfl rfl ?_
      refine y_getR (b := 9) (q := 21) rfl rfl (by decide) atC0 rfl rfl ?_
      refine y_iload_n (q := 22) rfl rfl rfl ?_
      refine y_guard (fun c7 => ?_)
      refine y_aald (b := (34 + 2 * v1.toInt.toNat)) (K := v1.toInt.toNat) (X := v1.toInt) (q := 23) hbC rfl atC9 (by decide) rfl c7.1 rfl (at9k (by omega : v1.toInt.toNat < 4)) rfl ?_
      refine y_astore (lo' := [some (.ref 0), some (.int v1), some (.int v2), some (.int v3), some (.int v4), some (.int v5), some (.ref (34 + 2 * v1.toInt.toNat)), none]) (q := 25) rfl (Nat.le_of_ble_eq_true rfl) rfl rfl ?_
      refine y_aload_n (q := 26) rfl rfl rfl ?_
      refine y_getR (b := 9) (q := 29) rfl rfl (by decide) atC0 rfl rfl ?_
      refine y_iload_n (q := 30) rfl rfl rfl ?_
      refine y_guard (fun c8 => ?_)
      refine y_aald (b := (34 + 2 * v3.toInt.toNat)) (K := v3.toInt.toNat) (X := v3.toInt) (q := 31) hbC rfl atC9 (by decide) rfl c8.1 rfl (at9k (by omega : v3.toInt.toNat < 4)) rfl ?_
      refine y_astore (lo' := [some (.ref 0), some (.int v1), some (.int v2), some (.int v3), some (.int v4), some (.int v5), some (.ref (34 + 2 * v1.toInt.toNat)), some (.ref (34 + 2 * v3.toInt.toNat))]) (q := 33) rfl (Nat.le_of_ble_eq_true rfl) rfl rfl ?_
      refine y_aload (q := 35) rfl rfl rfl ?_
      refine y_callP (I := .invokevirtual 220) (idx := 220) (KD := 1) (J := 32) (mj := mj22) (as := [.ref (34 + 2 * v1.toInt.toNat)]) (r := []) (q := 38) rfl (fun _ _ _ _ _ _ => rfl) rfl (by decide) rfl rfl rfl rfl rfl (Nat.le_of_ble_eq_true rfl) (d_recv (shW (zW4 (by omega : v1.toInt.toNat < 4))) (by decide) (by decide)) rfl (m_X2_isMissing (Nat.le_trans (by decide) hd) (34 + 2 * v1.toInt.toNat) (zW4 (by omega : v1.toInt.toNat < 4)) h) (fun r9 => ?_)
      refine y_ne0 (q := 49) (q' := 41) rfl rfl rfl rfl (fun c10 => ?_) (fun c11 => ?_)
      · skip
        refine y_aload (q := 43) rfl rfl rfl ?_
        refine y_callP (I := .invokevirtual 220) (idx := 220) (KD := 1) (J := 32) (mj := mj22) (as := [.ref (34 + 2 * v3.toInt.toNat)]) (r := []) (q := 46) rfl (fun _ _ _ _ _ _ => rfl) rfl (by decide) rfl rfl rfl rfl rfl (Nat.le_of_ble_eq_true rfl) (d_recv (shW (zW4 (by omega : v3.toInt.toNat < 4))) (by decide) (by decide)) rfl (m_X2_isMissing (Nat.le_trans (by decide) hd) (34 + 2 * v3.toInt.toNat) (zW4 (by omega : v3.toInt.toNat < 4)) h) (fun r12 => ?_)
        refine y_eq0 (q := 52) (q' := 49) rfl rfl rfl rfl (fun c13 => ?_) (fun c14 => ?_)
        · skip
          refine y_aload (q := 54) rfl rfl rfl ?_
          refine y_getI (q := 57) rfl rfl (by decide) (shW (zW4 (by omega : v1.toInt.toNat < 4))) rfl rfl ?_
          refine y_aload (q := 59) rfl rfl rfl ?_
          refine y_getI (q := 62) rfl rfl (by decide) (shW (zW4 (by omega : v3.toInt.toNat < 4))) rfl rfl ?_
          refine y_eq (q := 68) (q' := 65) rfl rfl rfl rfl rfl (fun c15 => ?_) (fun c16 => ?_)
          · skip
            refine y_aload (q := 70) rfl rfl rfl ?_
            refine y_iload_n (q := 71) rfl rfl rfl ?_
            refine y_iload (q := 73) rfl rfl rfl ?_
            refine y_callP (I := .invokevirtual 262) (idx := 262) (KD := 1) (J := 34) (mj := mj24) (as := [.ref (34 + 2 * v1.toInt.toNat), .int v2, .int v5]) (r := []) (q := 76) rfl (fun _ _ _ _ _ _ => rfl) rfl (by decide) rfl rfl rfl rfl rfl (Nat.le_of_ble_eq_true rfl) (d_recv (shW (zW4 (by omega : v1.toInt.toNat < 4))) (by decide) (by decide)) rfl (m_X2_holds (Nat.le_trans (by decide) hd) (34 + 2 * v1.toInt.toNat) (zW4 (by omega : v1.toInt.toNat < 4)) v2 v5 h) (fun r17 => ?_)
            refine y_eq0 (q := 91) (q' := 79) rfl rfl rfl rfl (fun c18 => ?_) (fun c19 => ?_)
            · skip
              refine y_bipush (x := (-12)) (q := 93) rfl (by decide) rfl ?_
              exact y_retI rfl (by decide) rfl rfl
            · skip
              refine y_aload (q := 81) rfl rfl rfl ?_
              refine y_iload (q := 83) rfl rfl rfl ?_
              refine y_iload (q := 85) rfl rfl rfl ?_
              refine y_callP (I := .invokevirtual 262) (idx := 262) (KD := 1) (J := 34) (mj := mj24) (as := [.ref (34 + 2 * v3.toInt.toNat), .int v4, .int v5]) (r := []) (q := 88) rfl (fun _ _ _ _ _ _ => rfl) rfl (by decide) rfl rfl rfl rfl rfl (Nat.le_of_ble_eq_true rfl) (d_recv (shW (zW4 (by omega : v3.toInt.toNat < 4))) (by decide) (by decide)) rfl (m_X2_holds (Nat.le_trans (by decide) hd) (34 + 2 * v3.toInt.toNat) (zW4 (by omega : v3.toInt.toNat < 4)) v4 v5 h) (fun r20 => ?_)
              refine y_ne0 (q := 94) (q' := 91) rfl rfl rfl rfl (fun c21 => ?_) (fun c22 => ?_)
              · skip
                refine y_bipush (x := (-12)) (q := 93) rfl (by decide) rfl ?_
                exact y_retI rfl (by decide) rfl rfl
              · skip
                refine y_aload (q := 96) rfl rfl rfl ?_
                refine y_getR (b := ((34 + 2 * v1.toInt.toNat) + 1)) (q := 99) rfl rfl (by decide) (shW (zW4 (by omega : v1.toInt.toNat < 4))) rfl rfl ?_
                refine y_iload_n (q := 100) rfl rfl rfl ?_
                refine y_aload (q := 102) rfl rfl rfl ?_
                refine y_getR (b := ((34 + 2 * v3.toInt.toNat) + 1)) (q := 105) rfl rfl (by decide) (shW (zW4 (by omega : v3.toInt.toNat < 4))) rfl rfl ?_
                refine y_iload (q := 107) rfl rfl rfl ?_
                refine y_iload (q := 109) rfl rfl rfl ?_
                refine y_guard (fun c24 => ?_)
                refine y_cpy (m := 40) (n := 40) (NN := v5.toInt.toNat) (DP := v4.toInt.toNat) (SP := v2.toInt.toNat) (q := 112) rfl rfl (Nat.le_of_ble_eq_true rfl) (shW1 (zW4 (by omega : v1.toInt.toNat < 4))) (shW1 (zW4 (by omega : v3.toInt.toNat < 4))) ⟨c24.1, c24.2.1, c24.2.2.1⟩ rfl rfl rfl c24.2.2.2.1 c24.2.2.2.2 rfl (fun g23 => ?_)
                refine y_iload (q := 114) rfl rfl rfl ?_
                exact y_retI rfl (by decide) rfl rfl
          · skip
            refine y_bipush (x := (-13)) (q := 67) rfl (by decide) rfl ?_
            exact y_retI rfl (by decide) rfl rfl
        · skip
          refine y_bipush (x := (-11)) (q := 51) rfl (by decide) rfl ?_
          exact y_retI rfl (by decide) rfl rfl
      · skip
        refine y_bipush (x := (-11)) (q := 51) rfl (by decide) rfl ?_
        exact y_retI rfl (by decide) rfl rfl
def l_X6_houses_74 (v3 : Int32) (v4 : Int32) (a5 : Nat) (k : Int32 → dH → Option (Int32 × dH)) : Nat → Int32 → Int32 → dH → Option (Int32 × dH)
  | 0, _, _, _ => none
  | n + 1, v6, v7, h => if v7.toInt < v4.toInt then (oP (f_X2_holds a5 (v3 + (2 * v7)) 2 h) (fun r22 => if r22.toInt = 0 then (some ((-12), h)) else (if 0 ≤ (v3 + (2 * v7)).toInt ∧ (v3 + (2 * v7)).toInt < 40 then (if 0 ≤ ((v3 + (2 * v7)) + 1).toInt ∧ ((v3 + (2 * v7)) + 1).toInt < 40 then (oI (f_X6_settle (h (a5 + 1) ((v3 + (2 * v7)).toInt.toNat)) (h (a5 + 1) (((v3 + (2 * v7)) + 1).toInt.toNat)) h) (fun r27 g28 => if r27.toInt < 0 then (l_X6_houses_74 v3 v4 a5 k n v6 (v7 + 1) g28) else (l_X6_houses_74 v3 v4 a5 k n (v6 + 1) (v7 + 1) g28))) else none) else none))) else (k v6 h)
theorem lz_X6_houses_74 {d : Nat} (hd : 2 ≤ d) (v1 : Int32) (v2 : Int32) (v3 : Int32) (v4 : Int32) (a5 : Nat) (ha5 : zW a5) (k : Int32 → dH → Option (Int32 × dH)) (hk : ∀ (v6 : Int32) (w7 : Int32) (z8 : Option Value) (h : dH), dY shC d mj95 dI (k v6 h) 137 [some (.ref 0), some (.int v1), some (.int v2), some (.int v3), some (.int v4), some (.ref a5), some (.int v6), some (.int w7), z8] [] h) : ∀ (n : Nat) (v6 : Int32) (v7 : Int32) (h : dH) (z8 : Option Value), dY shC d mj95 dI (l_X6_houses_74 v3 v4 a5 k n v6 v7 h) 74 [some (.ref 0), some (.int v1), some (.int v2), some (.int v3), some (.int v4), some (.ref a5), some (.int v6), some (.int v7), z8] [] h
  | 0, _, _, _, _ => dY_none
  | n + 1, v6, v7, h, z8 => by
    rw [l_X6_houses_74]
    refine y_iload (q := 76) rfl rfl rfl ?_
    refine y_iload (q := 78) rfl rfl rfl ?_
    refine y_ge (q := 137) (q' := 81) rfl rfl rfl rfl rfl (fun c20 => ?_) (fun c21 => ?_)
    · skip
      refine y_iload_n (q := 82) rfl rfl rfl ?_
      refine y_iconst (x := 2) (q := 83) rfl (by decide) rfl ?_
      refine y_iload (q := 85) rfl rfl rfl ?_
      refine y_imul (q := 86) rfl rfl ?_
      refine y_iadd (q := 87) rfl rfl ?_
      refine y_istore (lo' := [some (.ref 0), some (.int v1), some (.int v2), some (.int v3), some (.int v4), some (.ref a5), some (.int v6), some (.int v7), some (.int (v3 + (2 * v7)))]) (q := 89) rfl (Nat.le_of_ble_eq_true rfl) rfl rfl ?_
      refine y_aload (q := 91) rfl rfl rfl ?_
      refine y_iload (q := 93) rfl rfl rfl ?_
      refine y_iconst (x := 2) (q := 94) rfl (by decide) rfl ?_
      refine y_callP (I := .invokevirtual 262) (idx := 262) (KD := 1) (J := 34) (mj := mj24) (as := [.ref a5, .int (v3 + (2 * v7)), .int 2]) (r := []) (q := 97) rfl (fun _ _ _ _ _ _ => rfl) rfl (by decide) rfl rfl rfl rfl rfl (Nat.le_of_ble_eq_true rfl) (d_recv (shW ha5) (by decide) (by decide)) rfl (m_X2_holds (Nat.le_trans (by decide) hd) a5 ha5 (v3 + (2 * v7)) 2 h) (fun r22 => ?_)
      refine y_ne0 (q := 103) (q' := 100) rfl rfl rfl rfl (fun c23 => ?_) (fun c24 => ?_)
      · skip
        refine y_bipush (x := (-12)) (q := 102) rfl (by decide) rfl ?_
        exact y_retI rfl (by decide) rfl rfl
      · skip
        refine y_aload_n (q := 104) rfl rfl rfl ?_
        refine y_aload (q := 106) rfl rfl rfl ?_
        refine y_getR (b := (a5 + 1)) (q := 109) rfl rfl (by decide) (shW ha5) rfl rfl ?_
        refine y_iload (q := 111) rfl rfl rfl ?_
        refine y_guard (fun c25 => ?_)
        refine y_iald (n := 40) (N := 40) (X := (v3 + (2 * v7)).toInt) (K := (v3 + (2 * v7)).toInt.toNat) (q := 112) hbC rfl (shW1 ha5) rfl rfl c25 rfl rfl ?_
        refine y_aload (q := 114) rfl rfl rfl ?_
        refine y_getR (b := (a5 + 1)) (q := 117) rfl rfl (by decide) (shW ha5) rfl rfl ?_
        refine y_iload (q := 119) rfl rfl rfl ?_
        refine y_iconst (x := 1) (q := 120) rfl (by decide) rfl ?_
        refine y_iadd (q := 121) rfl rfl ?_
        refine y_guard (fun c26 => ?_)
        refine y_iald (n := 40) (N := 40) (X := ((v3 + (2 * v7)) + 1).toInt) (K := ((v3 + (2 * v7)) + 1).toInt.toNat) (q := 122) hbC rfl (shW1 ha5) rfl rfl c26 rfl rfl ?_
        refine y_callI (I := .invokevirtual 116) (idx := 116) (KD := 1) (J := 116) (mj := mj106) (as := [.ref 0, .int (h (a5 + 1) ((v3 + (2 * v7)).toInt.toNat)), .int (h (a5 + 1) (((v3 + (2 * v7)) + 1).toInt.toNat))]) (r := []) (q := 125) rfl (fun _ _ _ _ _ _ => rfl) rfl (by decide) rfl rfl rfl rfl rfl (Nat.le_of_ble_eq_true rfl) (d_recv atC0 (by decide) (by decide)) rfl (m_X6_settle (Nat.le_trans (by decide) hd) (h (a5 + 1) ((v3 + (2 * v7)).toInt.toNat)) (h (a5 + 1) (((v3 + (2 * v7)) + 1).toInt.toNat)) h) (fun r27 g28 => ?_)
        refine y_lt0 (q := 131) (q' := 128) rfl rfl rfl rfl (fun c29 => ?_) (fun c30 => ?_)
        · skip
          refine y_iinc (z := (v7 + 1)) (lo' := [some (.ref 0), some (.int v1), some (.int v2), some (.int v3), some (.int v4), some (.ref a5), some (.int v6), some (.int (v7 + 1)), some (.int (v3 + (2 * v7)))]) (q := 134) rfl rfl (Nat.le_of_ble_eq_true rfl) (by rw [oi_1]) rfl rfl ?_
          refine y_goto (q := 74) rfl rfl ?_
          exact lz_X6_houses_74 hd v1 v2 v3 v4 a5 ha5 k hk n v6 (v7 + 1) g28 (some (.int (v3 + (2 * v7))))
        · skip
          refine y_iinc (z := (v6 + 1)) (lo' := [some (.ref 0), some (.int v1), some (.int v2), some (.int v3), some (.int v4), some (.ref a5), some (.int (v6 + 1)), some (.int v7), some (.int (v3 + (2 * v7)))]) (q := 131) rfl rfl (Nat.le_of_ble_eq_true rfl) (by rw [oi_1]) rfl rfl ?_
          refine y_iinc (z := (v7 + 1)) (lo' := [some (.ref 0), some (.int v1), some (.int v2), some (.int v3), some (.int v4), some (.ref a5), some (.int (v6 + 1)), some (.int (v7 + 1)), some (.int (v3 + (2 * v7)))]) (q := 134) rfl rfl (Nat.le_of_ble_eq_true rfl) (by rw [oi_1]) rfl rfl ?_
          refine y_goto (q := 74) rfl rfl ?_
          exact lz_X6_houses_74 hd v1 v2 v3 v4 a5 ha5 k hk n (v6 + 1) (v7 + 1) g28 (some (.int (v3 + (2 * v7))))
    · skip
      exact hk v6 v7 (z8) h
def f_X6_houses (v1 : Int32) (v2 : Int32) (v3 : Int32) (v4 : Int32) (h : dH) : Option (Int32 × dH) := oP (f_X6_isSheet v1) (fun r1 => if r1.toInt = 0 then (some ((-2), h)) else (oP (f_X6_isSort v2) (fun r4 => if r4.toInt = 0 then (some ((-2), h)) else (if v4.toInt < 0 then (some ((-2), h)) else (if 8 < v4.toInt then (some ((-2), h)) else (if 0 ≤ v1.toInt ∧ v1.toInt < 4 then (oP (f_X2_isMissing (34 + 2 * v1.toInt.toNat) h) (fun r12 => if r12.toInt = 0 then (if (h (34 + 2 * v1.toInt.toNat) 0).toInt = v2.toInt then (oP (f_X2_isMissing (34 + 2 * v1.toInt.toNat) h) (fun r17 => if r17.toInt = 0 then (l_X6_houses_74 v3 v4 (34 + 2 * v1.toInt.toNat)  (fun v6_31 g34 => some (v6_31, g34)) fuel0 0 0 h) else (some ((-11), h)))) else (some ((-13), h))) else (oP (f_X2_isMissing (34 + 2 * v1.toInt.toNat) h) (fun r35 => if r35.toInt = 0 then (l_X6_houses_74 v3 v4 (34 + 2 * v1.toInt.toNat)  (fun v6_38 g41 => some (v6_38, g41)) fuel0 0 0 h) else (some ((-11), h)))))) else none))))))
theorem m_X6_houses {d : Nat} (hd : 3 ≤ d) (v1 : Int32) (v2 : Int32) (v3 : Int32) (v4 : Int32) (h : dH) : dX shC d 95 [.ref 0, .int v1, .int v2, .int v3, .int v4] dI (f_X6_houses v1 v2 v3 v4 h) h := by
  obtain ⟨e, rfl⟩ : ∃ e, d = e + 1 := ⟨d - 1, by omega⟩
  have hd : 2 ≤ e := by omega
  refine dX_of (mj := mj95) (lo := [some (.ref 0), some (.int v1), some (.int v2), some (.int v3), some (.int v4), none, none, none, none]) rfl (Nat.le_of_ble_eq_true rfl) rfl ?_
  unfold f_X6_houses
  refine y_iload_n (q := 1) rfl rfl rfl ?_
  refine y_callP (I := .invokestatic 217) (idx := 217) (KD := 0) (J := 109) (mj := mj99) (as := [.int v1]) (r := []) (q := 4) rfl (fun _ _ _ _ _ _ => rfl) rfl (by decide) rfl rfl rfl rfl rfl (Nat.le_of_ble_eq_true rfl) rfl rfl (m_X6_isSheet (Nat.le_trans (by decide) hd) v1 h) (fun r1 => ?_)
  refine y_eq0 (q := 26) (q' := 7) rfl rfl rfl rfl (fun c2 => ?_) (fun c3 => ?_)
  · skip
    refine y_bipush (x := (-2)) (q := 28) rfl (by decide) rfl ?_
    exact y_retI rfl (by decide) rfl rfl
  · skip
    refine y_iload_n (q := 8) rfl rfl rfl ?_
    refine y_callP (I := .invokestatic 259) (idx := 259) (KD := 0) (J := 110) (mj := mj100) (as := [.int v2]) (r := []) (q := 11) rfl (fun _ _ _ _ _ _ => rfl) rfl (by decide) rfl rfl rfl rfl rfl (Nat.le_of_ble_eq_true rfl) rfl rfl (m_X6_isSort (Nat.le_trans (by decide) hd) v2 h) (fun r4 => ?_)
    refine y_eq0 (q := 26) (q' := 14) rfl rfl rfl rfl (fun c5 => ?_) (fun c6 => ?_)
    · skip
      refine y_bipush (x := (-2)) (q := 28) rfl (by decide) rfl ?_
      exact y_retI rfl (by decide) rfl rfl
    · skip
      refine y_iload (q := 16) rfl rfl rfl ?_
      refine y_lt0 (q := 26) (q' := 19) rfl rfl rfl rfl (fun c7 => ?_) (fun c8 => ?_)
      · skip
        refine y_bipush (x := (-2)) (q := 28) rfl (by decide) rfl ?_
        exact y_retI rfl (by decide) rfl rfl
      · skip
        refine y_iload (q := 21) rfl rfl rfl ?_
        refine y_bipush (x := 8) (q := 23) rfl (by decide) rfl ?_
        refine y_le (q := 29) (q' := 26) rfl rfl (by decide) rfl rfl (fun c9 => ?_) (fun c10 => ?_)
        · skip
          refine y_bipush (x := (-2)) (q := 28) rfl (by decide) rfl ?_
          exact y_retI rfl (by decide) rfl rfl
        · skip
          refine y_aload_n (q := 30) rfl rfl rfl ?_
          refine y_getR (b := 9) (q := 33) rfl rfl (by decide) atC0 rfl rfl ?_
          refine y_iload_n (q := 34) rfl rfl rfl ?_
          refine y_guard (fun c11 => ?_)
          refine y_aald (b := (34 + 2 * v1.toInt.toNat)) (K := v1.toInt.toNat) (X := v1.toInt) (q := 35) hbC rfl atC9 (by decide) rfl c11.1 rfl (at9k (by omega : v1.toInt.toNat < 4)) rfl ?_
          refine y_astore (lo' := [some (.ref 0), some (.int v1), some (.int v2), some (.int v3), some (.int v4), some (.ref (34 + 2 * v1.toInt.toNat)), none, none, none]) (q := 37) rfl (Nat.le_of_ble_eq_true rfl) rfl rfl ?_
          refine y_aload (q := 39) rfl rfl rfl ?_
          refine y_callP (I := .invokevirtual 220) (idx := 220) (KD := 1) (J := 32) (mj := mj22) (as := [.ref (34 + 2 * v1.toInt.toNat)]) (r := []) (q := 42) rfl (fun _ _ _ _ _ _ => rfl) rfl (by decide) rfl rfl rfl rfl rfl (Nat.le_of_ble_eq_true rfl) (d_recv (shW (zW4 (by omega : v1.toInt.toNat < 4))) (by decide) (by decide)) rfl (m_X2_isMissing (Nat.le_trans (by decide) hd) (34 + 2 * v1.toInt.toNat) (zW4 (by omega : v1.toInt.toNat < 4)) h) (fun r12 => ?_)
          refine y_ne0 (q := 57) (q' := 45) rfl rfl rfl rfl (fun c13 => ?_) (fun c14 => ?_)
          · skip
            refine y_aload (q := 47) rfl rfl rfl ?_
            refine y_getI (q := 50) rfl rfl (by decide) (shW (zW4 (by omega : v1.toInt.toNat < 4))) rfl rfl ?_
            refine y_iload_n (q := 51) rfl rfl rfl ?_
            refine y_eq (q := 57) (q' := 54) rfl rfl rfl rfl rfl (fun c15 => ?_) (fun c16 => ?_)
            · skip
              refine y_aload (q := 59) rfl rfl rfl ?_
              refine y_callP (I := .invokevirtual 220) (idx := 220) (KD := 1) (J := 32) (mj := mj22) (as := [.ref (34 + 2 * v1.toInt.toNat)]) (r := []) (q := 62) rfl (fun _ _ _ _ _ _ => rfl) rfl (by decide) rfl rfl rfl rfl rfl (Nat.le_of_ble_eq_true rfl) (d_recv (shW (zW4 (by omega : v1.toInt.toNat < 4))) (by decide) (by decide)) rfl (m_X2_isMissing (Nat.le_trans (by decide) hd) (34 + 2 * v1.toInt.toNat) (zW4 (by omega : v1.toInt.toNat < 4)) h) (fun r17 => ?_)
              refine y_eq0 (q := 68) (q' := 65) rfl rfl rfl rfl (fun c18 => ?_) (fun c19 => ?_)
              · skip
                refine y_iconst (x := 0) (q := 69) rfl (by decide) rfl ?_
                refine y_istore (lo' := [some (.ref 0), some (.int v1), some (.int v2), some (.int v3), some (.int v4), some (.ref (34 + 2 * v1.toInt.toNat)), some (.int 0), none, none]) (q := 71) rfl (Nat.le_of_ble_eq_true rfl) rfl rfl ?_
                refine y_iconst (x := 0) (q := 72) rfl (by decide) rfl ?_
                refine y_istore (lo' := [some (.ref 0), some (.int v1), some (.int v2), some (.int v3), some (.int v4), some (.ref (34 + 2 * v1.toInt.toNat)), some (.int 0), some (.int 0), none]) (q := 74) rfl (Nat.le_of_ble_eq_true rfl) rfl rfl ?_
                refine lz_X6_houses_74 hd v1 v2 v3 v4 (34 + 2 * v1.toInt.toNat) (zW4 (by omega : v1.toInt.toNat < 4))  _ (fun v6_31 z32 z33 g34 => ?_) fuel0 0 0 h (none)
                refine y_iload (q := 139) rfl rfl rfl ?_
                exact y_retI rfl (by decide) rfl rfl
              · skip
                refine y_bipush (x := (-11)) (q := 67) rfl (by decide) rfl ?_
                exact y_retI rfl (by decide) rfl rfl
            · skip
              refine y_bipush (x := (-13)) (q := 56) rfl (by decide) rfl ?_
              exact y_retI rfl (by decide) rfl rfl
          · skip
            refine y_aload (q := 59) rfl rfl rfl ?_
            refine y_callP (I := .invokevirtual 220) (idx := 220) (KD := 1) (J := 32) (mj := mj22) (as := [.ref (34 + 2 * v1.toInt.toNat)]) (r := []) (q := 62) rfl (fun _ _ _ _ _ _ => rfl) rfl (by decide) rfl rfl rfl rfl rfl (Nat.le_of_ble_eq_true rfl) (d_recv (shW (zW4 (by omega : v1.toInt.toNat < 4))) (by decide) (by decide)) rfl (m_X2_isMissing (Nat.le_trans (by decide) hd) (34 + 2 * v1.toInt.toNat) (zW4 (by omega : v1.toInt.toNat < 4)) h) (fun r35 => ?_)
            refine y_eq0 (q := 68) (q' := 65) rfl rfl rfl rfl (fun c36 => ?_) (fun c37 => ?_)
            · skip
              refine y_iconst (x := 0) (q := 69) rfl (by decide) rfl ?_
              refine y_istore (lo' := [some (.ref 0), some (.int v1), some (.int v2), some (.int v3), some (.int v4), some (.ref (34 + 2 * v1.toInt.toNat)), some (.int 0), none, none]) (q := 71) rfl (Nat.le_of_ble_eq_true rfl) rfl rfl ?_
              refine y_iconst (x := 0) (q := 72) rfl (by decide) rfl ?_
              refine y_istore (lo' := [some (.ref 0), some (.int v1), some (.int v2), some (.int v3), some (.int v4), some (.ref (34 + 2 * v1.toInt.toNat)), some (.int 0), some (.int 0), none]) (q := 74) rfl (Nat.le_of_ble_eq_true rfl) rfl rfl ?_
              refine lz_X6_houses_74 hd v1 v2 v3 v4 (34 + 2 * v1.toInt.toNat) (zW4 (by omega : v1.toInt.toNat < 4))  _ (fun v6_38 z39 z40 g41 => ?_) fuel0 0 0 h (none)
              refine y_iload (q := 139) rfl rfl rfl ?_
              exact y_retI rfl (by decide) rfl rfl
            · skip
              refine y_bipush (x := (-11)) (q := 67) rfl (by decide) rfl ?_
              exact y_retI rfl (by decide) rfl rfl
end
end

section
/-! X6_isUnder, X6_taken (by program) -/
noncomputable section
def l_X6_isUnder_4 (v1 : Int32) (k : Option (Int32)) : Nat → Int32 → Int32 → Option (Int32)
  | 0, _, _ => none
  | n + 1, v2, v3 => if v3.toInt < 6 then (if v2.toInt < 0 then (k  ) else (if v2.toInt < 6 then (if v2.toInt = v1.toInt then ((some 1)) else (if 0 ≤ v2.toInt ∧ v2.toInt < 6 then (l_X6_isUnder_4 v1 k n (dtab 0 (v2.toInt.toNat)) (v3 + 1) ) else none)) else (k  ))) else (k  )
theorem lz_X6_isUnder_4 {d : Nat} (hd : 0 ≤ d) (v0 : Int32) (v1 : Int32) (h : dH) (k : Option (Int32)) (hk : ∀ (w2 : Int32) (w3 : Int32), dY shC d mj104 (dP h) (k ) 39 [some (.int v0), some (.int v1), some (.int w2), some (.int w3)] [] h) : ∀ (n : Nat) (v2 : Int32) (v3 : Int32), dY shC d mj104 (dP h) (l_X6_isUnder_4 v1 k n v2 v3) 4 [some (.int v0), some (.int v1), some (.int v2), some (.int v3)] [] h
  | 0, _, _ => dY_none
  | n + 1, v2, v3 => by
    rw [l_X6_isUnder_4]
    refine y_iload_n (q := 5) rfl rfl rfl ?_
    refine y_bipush (x := 6) (q := 7) rfl (by decide) rfl ?_
    refine y_ge (q := 39) (q' := 10) rfl rfl (by decide) rfl rfl (fun c1 => ?_) (fun c2 => ?_)
    · skip
      refine y_iload_n (q := 11) rfl rfl rfl ?_
      refine y_lt0 (q := 39) (q' := 14) rfl rfl rfl rfl (fun c3 => ?_) (fun c4 => ?_)
      · skip
        exact hk  v2 v3 
      · skip
        refine y_iload_n (q := 15) rfl rfl rfl ?_
        refine y_bipush (x := 6) (q := 17) rfl (by decide) rfl ?_
        refine y_ge (q := 39) (q' := 20) rfl rfl (by decide) rfl rfl (fun c5 => ?_) (fun c6 => ?_)
        · skip
          refine y_iload_n (q := 21) rfl rfl rfl ?_
          refine y_iload_n (q := 22) rfl rfl rfl ?_
          refine y_ne (q := 27) (q' := 25) rfl rfl rfl rfl rfl (fun c7 => ?_) (fun c8 => ?_)
          · skip
            refine y_iconst (x := 1) (q := 26) rfl (by decide) rfl ?_
            exact y_retP rfl (by decide) rfl rfl
          · skip
            refine y_gets (v := .ref (xB + 0)) (q := 30) rfl rfl rfl rfl rfl ?_
            refine y_iload_n (q := 31) rfl rfl rfl ?_
            refine y_guard (fun c9 => ?_)
            refine y_iald0 (p := 0) (N := 6) (X := v2.toInt) (K := v2.toInt.toNat) (q := 32) rfl rfl (by decide) rfl rfl c9 rfl rfl ?_
            refine y_istore_n (lo' := [some (.int v0), some (.int v1), some (.int (dtab 0 (v2.toInt.toNat))), some (.int v3)]) (q := 33) rfl (Nat.le_of_ble_eq_true rfl) rfl rfl ?_
            refine y_iinc (z := (v3 + 1)) (lo' := [some (.int v0), some (.int v1), some (.int (dtab 0 (v2.toInt.toNat))), some (.int (v3 + 1))]) (q := 36) rfl rfl (Nat.le_of_ble_eq_true rfl) (by rw [oi_1]) rfl rfl ?_
            refine y_goto (q := 4) rfl rfl ?_
            exact lz_X6_isUnder_4 hd v0 v1 h k hk n (dtab 0 (v2.toInt.toNat)) (v3 + 1)  
        · skip
          exact hk  v2 v3 
    · skip
      exact hk  v2 v3 
def f_X6_isUnder (v0 : Int32) (v1 : Int32) : Option (Int32) := l_X6_isUnder_4 v1  ((some 0)) fuel0 v0 0 
theorem m_X6_isUnder {d : Nat} (hd : 1 ≤ d) (v0 : Int32) (v1 : Int32) (h : dH) : dX shC d 104 [.int v0, .int v1] (dP h) (f_X6_isUnder v0 v1) h := by
  obtain ⟨e, rfl⟩ : ∃ e, d = e + 1 := ⟨d - 1, by omega⟩
  have hd : 0 ≤ e := by omega
  refine dX_of (mj := mj104) (lo := [some (.int v0), some (.int v1), none, none]) rfl (Nat.le_of_ble_eq_true rfl) rfl ?_
  unfold f_X6_isUnder
  refine y_iload_n (q := 1) rfl rfl rfl ?_
  refine y_istore_n (lo' := [some (.int v0), some (.int v1), some (.int v0), none]) (q := 2) rfl (Nat.le_of_ble_eq_true rfl) rfl rfl ?_
  refine y_iconst (x := 0) (q := 3) rfl (by decide) rfl ?_
  refine y_istore_n (lo' := [some (.int v0), some (.int v1), some (.int v0), some (.int 0)]) (q := 4) rfl (Nat.le_of_ble_eq_true rfl) rfl rfl ?_
  refine lz_X6_isUnder_4 hd v0 v1 h _ (fun z10 z11 => ?_) fuel0 v0 0  
  refine y_iconst (x := 0) (q := 40) rfl (by decide) rfl ?_
  exact y_retP rfl (by decide) rfl rfl
def f_X6_taken (v1 : Int32) (v2 : Int32) (h : dH) : Option (Int32) := if v2.toInt < 0 then ((some (-2))) else (if v2.toInt < 6 then (oP (f_X6_isHouse v1 h) (fun r5 => if r5.toInt = 0 then ((some (-11))) else (if 0 ≤ v1.toInt ∧ v1.toInt < 8 then (oP (f_X6_isUnder (h (43 + 1) (v1.toInt.toNat)) v2) (fun r9 => if r9.toInt = 0 then ((some (-13))) else (if 0 ≤ v1.toInt ∧ v1.toInt < 8 then ((some (h (43 + 2) (v1.toInt.toNat)))) else none))) else none))) else ((some (-2))))
theorem m_X6_taken {d : Nat} (hd : 2 ≤ d) (v1 : Int32) (v2 : Int32) (h : dH) : dX shC d 96 [.ref 0, .int v1, .int v2] (dP h) (f_X6_taken v1 v2 h) h := by
  obtain ⟨e, rfl⟩ : ∃ e, d = e + 1 := ⟨d - 1, by omega⟩
  have hd : 1 ≤ e := by omega
  refine dX_of (mj := mj96) (lo := [some (.ref 0), some (.int v1), some (.int v2)]) rfl (Nat.le_of_ble_eq_true rfl) rfl ?_
  unfold f_X6_taken
  refine y_iload_n (q := 1) rfl rfl rfl ?_
  refine y_lt0 (q := 10) (q' := 4) rfl rfl rfl rfl (fun c1 => ?_) (fun c2 => ?_)
  · skip
    refine y_bipush (x := (-2)) (q := 12) rfl (by decide) rfl ?_
    exact y_retP rfl (by decide) rfl rfl
  · skip
    refine y_iload_n (q := 5) rfl rfl rfl ?_
    refine y_bipush (x := 6) (q := 7) rfl (by decide) rfl ?_
    refine y_lt (q := 13) (q' := 10) rfl rfl (by decide) rfl rfl (fun c3 => ?_) (fun c4 => ?_)
    · skip
      refine y_aload_n (q := 14) rfl rfl rfl ?_
      refine y_iload_n (q := 15) rfl rfl rfl ?_
      refine y_callP (I := .invokevirtual 90) (idx := 90) (KD := 1) (J := 107) (mj := mj97) (as := [.ref 0, .int v1]) (r := []) (q := 18) rfl (fun _ _ _ _ _ _ => rfl) rfl (by decide) rfl rfl rfl rfl rfl (Nat.le_of_ble_eq_true rfl) (d_recv atC0 (by decide) (by decide)) rfl (m_X6_isHouse (Nat.le_trans (by decide) hd) v1 h) (fun r5 => ?_)
      refine y_ne0 (q := 24) (q' := 21) rfl rfl rfl rfl (fun c6 => ?_) (fun c7 => ?_)
      · skip
        refine y_bipush (x := (-11)) (q := 23) rfl (by decide) rfl ?_
        exact y_retP rfl (by decide) rfl rfl
      · skip
        refine y_aload_n (q := 25) rfl rfl rfl ?_
        refine y_getR (b := 43) (q := 28) rfl rfl (by decide) atC0 rfl rfl ?_
        refine y_getR (b := (43 + 1)) (q := 31) rfl rfl (by decide) (shS zS43) rfl rfl ?_
        refine y_iload_n (q := 32) rfl rfl rfl ?_
        refine y_guard (fun c8 => ?_)
        refine y_iald (n := 8) (N := 8) (X := v1.toInt) (K := v1.toInt.toNat) (q := 33) hbC rfl (shS1 zS43) rfl rfl c8 rfl rfl ?_
        refine y_iload_n (q := 34) rfl rfl rfl ?_
        refine y_callP (I := .invokestatic 277) (idx := 277) (KD := 0) (J := 114) (mj := mj104) (as := [.int (h (43 + 1) (v1.toInt.toNat)), .int v2]) (r := []) (q := 37) rfl (fun _ _ _ _ _ _ => rfl) rfl (by decide) rfl rfl rfl rfl rfl (Nat.le_of_ble_eq_true rfl) rfl rfl (m_X6_isUnder (Nat.le_trans (by decide) hd) (h (43 + 1) (v1.toInt.toNat)) v2 h) (fun r9 => ?_)
        refine y_eq0 (q := 52) (q' := 40) rfl rfl rfl rfl (fun c10 => ?_) (fun c11 => ?_)
        · skip
          refine y_bipush (x := (-13)) (q := 54) rfl (by decide) rfl ?_
          exact y_retP rfl (by decide) rfl rfl
        · skip
          refine y_aload_n (q := 41) rfl rfl rfl ?_
          refine y_getR (b := 43) (q := 44) rfl rfl (by decide) atC0 rfl rfl ?_
          refine y_getR (b := (43 + 2)) (q := 47) rfl rfl (by decide) (shS zS43) rfl rfl ?_
          refine y_iload_n (q := 48) rfl rfl rfl ?_
          refine y_guard (fun c12 => ?_)
          refine y_iald (n := 8) (N := 8) (X := v1.toInt) (K := v1.toInt.toNat) (q := 49) hbC rfl (shS2 zS43) rfl rfl c12 rfl rfl ?_
          refine y_goto (q := 54) rfl rfl ?_
          exact y_retP rfl (by decide) rfl rfl
    · skip
      refine y_bipush (x := (-2)) (q := 12) rfl (by decide) rfl ?_
      exact y_retP rfl (by decide) rfl rfl
end
end
