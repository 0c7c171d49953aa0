section
/-! X3_knows, X0_see, X0_everyone, X0_turn, X0_further, X0_companyOf, X0_companies, J6_bitCount_0f7a4, X0_largestCompany, X0_distance, X0_longestWay, X5_write, X5_endPart, X4_isDigit, X4_cutNumber, X4_isSmall, X4_reads, X4_keyFrom, X4_nameFrom, X4_cutWord, X4_isBlank, X4_cut, X5_clear, X2_isMissing, X2_lay, X2_holds, X2_put, X2_unlikeItems, X3_become (by program) -/
noncomputable section
def f_X3_knows (a0 : Nat) (v1 : Int32) (v2 : Int32) (h : dH) : Option (Int32) := if v1.toInt = v2.toInt then ((some 0)) else (if 0 ≤ v1.toInt ∧ v1.toInt < 8 then (if 0 ≤ v2.toInt ∧ v2.toInt < 8 then (if (h (a0 + 5 + v1.toInt.toNat) (v2.toInt.toNat)).toInt < (h a0 1).toInt then ((some 0)) else ((some 1))) else none) else none)
theorem m_X3_knows {d : Nat} (hd : 1 ≤ d) (a0 : Nat) (ha0 : zS a0) (v1 : Int32) (v2 : Int32) (h : dH) : dX shC d 31 [.ref a0, .int v1, .int v2] (dP h) (f_X3_knows a0 v1 v2 h) h := by
  obtain ⟨e, rfl⟩ : ∃ e, d = e + 1 := ⟨d - 1, by omega⟩
  have hd : 0 ≤ e := by omega
  refine dX_of (mj := mj31) (lo := [some (.ref a0), some (.int v1), some (.int v2)]) rfl (Nat.le_of_ble_eq_true rfl) rfl ?_
  unfold f_X3_knows
  refine y_iload_n (q := 1) rfl rfl rfl ?_
  refine y_iload_n (q := 2) rfl rfl rfl ?_
  refine y_eq (q := 24) (q' := 5) rfl rfl rfl rfl rfl (fun c1 => ?_) (fun c2 => ?_)
  · skip
    refine y_iconst (x := 0) (q := 25) rfl (by decide) rfl ?_
    exact y_retP rfl (by decide) rfl rfl
  · skip
    refine y_aload_n (q := 6) rfl rfl rfl ?_
    refine y_getR (b := (a0 + 4)) (q := 9) rfl rfl (by decide) (shS ha0) rfl rfl ?_
    refine y_iload_n (q := 10) rfl rfl rfl ?_
    refine y_guard (fun c3 => ?_)
    refine y_aald (b := (a0 + 5 + v1.toInt.toNat)) (K := v1.toInt.toNat) (X := v1.toInt) (q := 11) hbC rfl (shS4 ha0) (by decide) rfl c3.1 rfl (shS4k _ (by omega : v1.toInt.toNat < 8)) rfl ?_
    refine y_iload_n (q := 12) rfl rfl rfl ?_
    refine y_guard (fun c4 => ?_)
    refine y_iald (n := 8) (N := 8) (X := v2.toInt) (K := v2.toInt.toNat) (q := 13) hbC rfl (shSr ha0 (by omega : v1.toInt.toNat < 8)) rfl rfl c4 rfl rfl ?_
    refine y_aload_n (q := 14) rfl rfl rfl ?_
    refine y_getI (q := 17) rfl rfl (by decide) (shS ha0) rfl rfl ?_
    refine y_lt (q := 24) (q' := 20) rfl rfl rfl rfl rfl (fun c5 => ?_) (fun c6 => ?_)
    · skip
      refine y_iconst (x := 0) (q := 25) rfl (by decide) rfl ?_
      exact y_retP rfl (by decide) rfl rfl
    · skip
      refine y_iconst (x := 1) (q := 21) rfl (by decide) rfl ?_
      refine y_goto (q := 25) rfl rfl ?_
      exact y_retP rfl (by decide) rfl rfl
def l_X0_see_27 (a1 : Nat) (v2 : Int32) (k : dH → Option (dH)) : Nat → Int32 → dH → Option (dH)
  | 0, _, _ => none
  | n + 1, v3, h => if v3.toInt < (h 7 0).toInt then (oP (f_X3_knows a1 v2 v3 h) (fun r8 => if r8.toInt = 0 then (l_X0_see_27 a1 v2 k n (v3 + 1) h) else (if 0 ≤ v2.toInt ∧ v2.toInt < 8 then (if 0 ≤ v2.toInt ∧ v2.toInt < 8 then (oH (dU h 8 (v2.toInt.toNat) ((h 8 (v2.toInt.toNat)) ||| (dshl 1 v3))) (fun g12 => l_X0_see_27 a1 v2 k n (v3 + 1) g12)) else none) else none))) else (k  h)
theorem lz_X0_see_27 {d : Nat} (hd : 1 ≤ d) (a1 : Nat) (ha1 : zS a1) (v2 : Int32) (k : dH → Option (dH)) (hk : ∀ (w3 : Int32) (h : dH), dY shC d mj1 dV (k h) 62 [some (.ref 7), some (.ref a1), some (.int v2), some (.int w3)] [] h) : ∀ (n : Nat) (v3 : Int32) (h : dH), dY shC d mj1 dV (l_X0_see_27 a1 v2 k n v3 h) 27 [some (.ref 7), some (.ref a1), some (.int v2), some (.int v3)] [] h
  | 0, _, _ => dY_none
  | n + 1, v3, h => by
    rw [l_X0_see_27]
    refine y_iload_n (q := 28) rfl rfl rfl ?_
    refine y_aload_n (q := 29) rfl rfl rfl ?_
    refine y_getI (q := 32) rfl rfl (by decide) atC7 rfl rfl ?_
    refine y_ge (q := 62) (q' := 35) rfl rfl rfl rfl rfl (fun c6 => ?_) (fun c7 => ?_)
    · skip
      refine y_aload_n (q := 36) rfl rfl rfl ?_
      refine y_iload_n (q := 37) rfl rfl rfl ?_
      refine y_iload_n (q := 38) rfl rfl rfl ?_
      refine y_callP (I := .invokevirtual 22) (idx := 22) (KD := 1) (J := 41) (mj := mj31) (as := [.ref a1, .int v2, .int v3]) (r := []) (q := 41) rfl (fun _ _ _ _ _ _ => rfl) rfl (by decide) rfl rfl rfl rfl rfl (Nat.le_of_ble_eq_true rfl) (d_recv (shS ha1) (by decide) (by decide)) rfl (m_X3_knows (Nat.le_trans (by decide) hd) a1 ha1 v2 v3 h) (fun r8 => ?_)
      refine y_eq0 (q := 56) (q' := 44) rfl rfl rfl rfl (fun c9 => ?_) (fun c10 => ?_)
      · skip
        refine y_iinc (z := (v3 + 1)) (lo' := [some (.ref 7), some (.ref a1), some (.int v2), some (.int (v3 + 1))]) (q := 59) rfl rfl (Nat.le_of_ble_eq_true rfl) (by rw [oi_1]) rfl rfl ?_
        refine y_goto (q := 27) rfl rfl ?_
        exact lz_X0_see_27 hd a1 ha1 v2 k hk n (v3 + 1) h 
      · skip
        refine y_aload_n (q := 45) rfl rfl rfl ?_
        refine y_getR (b := 8) (q := 48) rfl rfl (by decide) atC7 rfl rfl ?_
        refine y_iload_n (q := 49) rfl rfl rfl ?_
        refine y_dup2 (q := 50) rfl rfl ?_
        refine y_guard (fun c11 => ?_)
        refine y_iald (n := 8) (N := 8) (X := v2.toInt) (K := v2.toInt.toNat) (q := 51) hbC rfl atC8 rfl rfl c11 rfl rfl ?_
        refine y_iconst (x := 1) (q := 52) rfl (by decide) rfl ?_
        refine y_iload_n (q := 53) rfl rfl rfl ?_
        refine y_ishl (q := 54) rfl rfl ?_
        refine y_ior (q := 55) rfl rfl ?_
        refine y_guard (fun c13 => ?_)
        refine y_iast (n := 8) (N := 8) (X := v2.toInt) (K := v2.toInt.toNat) (q := 56) rfl atC8 rfl rfl c13 rfl rfl (fun g12 => ?_)
        refine y_iinc (z := (v3 + 1)) (lo' := [some (.ref 7), some (.ref a1), some (.int v2), some (.int (v3 + 1))]) (q := 59) rfl rfl (Nat.le_of_ble_eq_true rfl) (by rw [oi_1]) rfl rfl ?_
        refine y_goto (q := 27) rfl rfl ?_
        exact lz_X0_see_27 hd a1 ha1 v2 k hk n (v3 + 1) g12 
    · skip
      exact hk  v3 h
def l_X0_see_10 (a1 : Nat) (k : dH → Option (dH)) : Nat → Int32 → dH → Option (dH)
  | 0, _, _ => none
  | n + 1, v2, h => if v2.toInt < (h 7 0).toInt then (if 0 ≤ v2.toInt ∧ v2.toInt < 8 then (oH (dU h 8 (v2.toInt.toNat) 0) (fun g4 => l_X0_see_27 a1 v2  (fun g15 => l_X0_see_10 a1 k n (v2 + 1) g15) fuel0 0 g4)) else none) else (k  h)
theorem lz_X0_see_10 {d : Nat} (hd : 1 ≤ d) (a1 : Nat) (ha1 : zS a1) (k : dH → Option (dH)) (hk : ∀ (w2 : Int32) (z3 : Option Value) (h : dH), dY shC d mj1 dV (k h) 68 [some (.ref 7), some (.ref a1), some (.int w2), z3] [] h) : ∀ (n : Nat) (v2 : Int32) (h : dH) (z3 : Option Value), dY shC d mj1 dV (l_X0_see_10 a1 k n v2 h) 10 [some (.ref 7), some (.ref a1), some (.int v2), z3] [] h
  | 0, _, _, _ => dY_none
  | n + 1, v2, h, z3 => by
    rw [l_X0_see_10]
    refine y_iload_n (q := 11) rfl rfl rfl ?_
    refine y_aload_n (q := 12) rfl rfl rfl ?_
    refine y_getI (q := 15) rfl rfl (by decide) atC7 rfl rfl ?_
    refine y_ge (q := 68) (q' := 18) rfl rfl rfl rfl rfl (fun c2 => ?_) (fun c3 => ?_)
    · skip
      refine y_aload_n (q := 19) rfl rfl rfl ?_
      refine y_getR (b := 8) (q := 22) rfl rfl (by decide) atC7 rfl rfl ?_
      refine y_iload_n (q := 23) rfl rfl rfl ?_
      refine y_iconst (x := 0) (q := 24) rfl (by decide) rfl ?_
      refine y_guard (fun c5 => ?_)
      refine y_iast (n := 8) (N := 8) (X := v2.toInt) (K := v2.toInt.toNat) (q := 25) rfl atC8 rfl rfl c5 rfl rfl (fun g4 => ?_)
      refine y_iconst (x := 0) (q := 26) rfl (by decide) rfl ?_
      refine y_istore_n (lo' := [some (.ref 7), some (.ref a1), some (.int v2), some (.int 0)]) (q := 27) rfl (Nat.le_of_ble_eq_true rfl) rfl rfl ?_
      refine lz_X0_see_27 hd a1 ha1 v2  _ (fun z14 g15 => ?_) fuel0 0 g4 
      refine y_iinc (z := (v2 + 1)) (lo' := [some (.ref 7), some (.ref a1), some (.int (v2 + 1)), some (.int z14)]) (q := 65) rfl rfl (Nat.le_of_ble_eq_true rfl) (by rw [oi_1]) rfl rfl ?_
      refine y_goto (q := 10) rfl rfl ?_
      exact lz_X0_see_10 hd a1 ha1 k hk n (v2 + 1) g15 (some (.int z14))
    · skip
      exact hk  v2 (z3) h
def f_X0_see (a1 : Nat) (h : dH) : Option (dH) := oH (dU h 7 0 (h a1 2)) (fun g1 => l_X0_see_10 a1  (fun g18 => some g18) fuel0 0 g1)
theorem m_X0_see {d : Nat} (hd : 2 ≤ d) (a1 : Nat) (ha1 : zS a1) (h : dH) : dX shC d 1 [.ref 7, .ref a1] dV (f_X0_see a1 h) h := by
  obtain ⟨e, rfl⟩ : ∃ e, d = e + 1 := ⟨d - 1, by omega⟩
  have hd : 1 ≤ e := by omega
  refine dX_of (mj := mj1) (lo := [some (.ref 7), some (.ref a1), none, none]) rfl (Nat.le_of_ble_eq_true rfl) rfl ?_
  unfold f_X0_see
  refine y_aload_n (q := 1) rfl rfl rfl ?_
  refine y_aload_n (q := 2) rfl rfl rfl ?_
  refine y_getI (q := 5) rfl rfl (by decide) (shS ha1) rfl rfl ?_
  refine y_putI (q := 8) rfl rfl (by decide) atC7 rfl rfl rfl rfl (fun g1 => ?_)
  refine y_iconst (x := 0) (q := 9) rfl (by decide) rfl ?_
  refine y_istore_n (lo' := [some (.ref 7), some (.ref a1), some (.int 0), none]) (q := 10) rfl (Nat.le_of_ble_eq_true rfl) rfl rfl ?_
  refine lz_X0_see_10 hd a1 ha1  _ (fun z16 z17 g18 => ?_) fuel0 0 g1 (none)
  exact y_retV rfl rfl rfl
def f_X0_everyone  (h : dH) : Option (Int32) := (some ((dshl 1 (h 7 0)) - 1))
theorem m_X0_everyone {d : Nat} (hd : 1 ≤ d)  (h : dH) : dX shC d 2 [.ref 7] (dP h) (f_X0_everyone  h) h := by
  obtain ⟨e, rfl⟩ : ∃ e, d = e + 1 := ⟨d - 1, by omega⟩
  have hd : 0 ≤ e := by omega
  refine dX_of (mj := mj2) (lo := [some (.ref 7)]) rfl (Nat.le_of_ble_eq_true rfl) rfl ?_
  unfold f_X0_everyone
  refine y_iconst (x := 1) (q := 1) rfl (by decide) rfl ?_
  refine y_aload_n (q := 2) rfl rfl rfl ?_
  refine y_getI (q := 5) rfl rfl (by decide) atC7 rfl rfl ?_
  refine y_ishl (q := 6) rfl rfl ?_
  refine y_iconst (x := 1) (q := 7) rfl (by decide) rfl ?_
  refine y_isub (q := 8) rfl rfl ?_
  exact y_retP rfl (by decide) rfl rfl
def f_X0_turn (v1 : Int32) (v2 : Int32) (h : dH) : Option (dH) := if 0 ≤ v1.toInt ∧ v1.toInt < 8 then (if 0 ≤ v1.toInt ∧ v1.toInt < 8 then (oH (dU h 8 (v1.toInt.toNat) ((h 8 (v1.toInt.toNat)) ^^^ (dshl 1 v2))) (fun g2 => if 0 ≤ v2.toInt ∧ v2.toInt < 8 then (if 0 ≤ v2.toInt ∧ v2.toInt < 8 then (oH (dU g2 8 (v2.toInt.toNat) ((g2 8 (v2.toInt.toNat)) ^^^ (dshl 1 v1))) (fun g5 => some g5)) else none) else none)) else none) else none
theorem m_X0_turn {d : Nat} (hd : 1 ≤ d) (v1 : Int32) (v2 : Int32) (h : dH) : dX shC d 3 [.ref 7, .int v1, .int v2] dV (f_X0_turn v1 v2 h) h := by
  obtain ⟨e, rfl⟩ : ∃ e, d = e + 1 := ⟨d - 1, by omega⟩
  have hd : 0 ≤ e := by omega
  refine dX_of (mj := mj3) (lo := [some (.ref 7), some (.int v1), some (.int v2)]) rfl (Nat.le_of_ble_eq_true rfl) rfl ?_
  unfold f_X0_turn
  refine y_aload_n (q := 1) rfl rfl rfl ?_
  refine y_getR (b := 8) (q := 4) rfl rfl (by decide) atC7 rfl rfl ?_
  refine y_iload_n (q := 5) rfl rfl rfl ?_
  refine y_dup2 (q := 6) rfl rfl ?_
  refine y_guard (fun c1 => ?_)
  refine y_iald (n := 8) (N := 8) (X := v1.toInt) (K := v1.toInt.toNat) (q := 7) hbC rfl atC8 rfl rfl c1 rfl rfl ?_
  refine y_iconst (x := 1) (q := 8) rfl (by decide) rfl ?_
  refine y_iload_n (q := 9) rfl rfl rfl ?_
  refine y_ishl (q := 10) rfl rfl ?_
  refine y_ixor (q := 11) rfl rfl ?_
  refine y_guard (fun c3 => ?_)
  refine y_iast (n := 8) (N := 8) (X := v1.toInt) (K := v1.toInt.toNat) (q := 12) rfl atC8 rfl rfl c3 rfl rfl (fun g2 => ?_)
  refine y_aload_n (q := 13) rfl rfl rfl ?_
  refine y_getR (b := 8) (q := 16) rfl rfl (by decide) atC7 rfl rfl ?_
  refine y_iload_n (q := 17) rfl rfl rfl ?_
  refine y_dup2 (q := 18) rfl rfl ?_
  refine y_guard (fun c4 => ?_)
  refine y_iald (n := 8) (N := 8) (X := v2.toInt) (K := v2.toInt.toNat) (q := 19) hbC rfl atC8 rfl rfl c4 rfl rfl ?_
  refine y_iconst (x := 1) (q := 20) rfl (by decide) rfl ?_
  refine y_iload_n (q := 21) rfl rfl rfl ?_
  refine y_ishl (q := 22) rfl rfl ?_
  refine y_ixor (q := 23) rfl rfl ?_
  refine y_guard (fun c6 => ?_)
  refine y_iast (n := 8) (N := 8) (X := v2.toInt) (K := v2.toInt.toNat) (q := 24) rfl atC8 rfl rfl c6 rfl rfl (fun g5 => ?_)
  exact y_retV rfl rfl rfl
def l_X0_further_4 (v1 : Int32) (h : dH) (k : Int32 → Option (Int32)) : Nat → Int32 → Int32 → Option (Int32)
  | 0, _, _ => none
  | n + 1, v2, v3 => if v3.toInt < (h 7 0).toInt then (if ((dshr v1 v3) &&& 1).toInt = 1 then (if 0 ≤ v3.toInt ∧ v3.toInt < 8 then (l_X0_further_4 v1 h k n (v2 ||| (h 8 (v3.toInt.toNat))) (v3 + 1) ) else none) else (l_X0_further_4 v1 h k n v2 (v3 + 1) )) else (k v2 )
theorem lz_X0_further_4 {d : Nat} (hd : 0 ≤ d) (v1 : Int32) (h : dH) (k : Int32 → Option (Int32)) (hk : ∀ (v2 : Int32) (w3 : Int32), dY shC d mj9 (dP h) (k v2) 36 [some (.ref 7), some (.int v1), some (.int v2), some (.int w3)] [] h) : ∀ (n : Nat) (v2 : Int32) (v3 : Int32), dY shC d mj9 (dP h) (l_X0_further_4 v1 h k n v2 v3) 4 [some (.ref 7), some (.int v1), some (.int v2), some (.int v3)] [] h
  | 0, _, _ => dY_none
  | n + 1, v2, v3 => by
    rw [l_X0_further_4]
    refine y_iload_n (q := 5) rfl rfl rfl ?_
    refine y_aload_n (q := 6) rfl rfl rfl ?_
    refine y_getI (q := 9) rfl rfl (by decide) atC7 rfl rfl ?_
    refine y_ge (q := 36) (q' := 12) rfl rfl rfl rfl rfl (fun c1 => ?_) (fun c2 => ?_)
    · skip
      refine y_iload_n (q := 13) rfl rfl rfl ?_
      refine y_iload_n (q := 14) rfl rfl rfl ?_
      refine y_ishr (q := 15) rfl rfl ?_
      refine y_iconst (x := 1) (q := 16) rfl (by decide) rfl ?_
      refine y_iand (q := 17) rfl rfl ?_
      refine y_iconst (x := 1) (q := 18) rfl (by decide) rfl ?_
      refine y_ne (q := 30) (q' := 21) rfl rfl (by decide) rfl rfl (fun c3 => ?_) (fun c4 => ?_)
      · skip
        refine y_iload_n (q := 22) rfl rfl rfl ?_
        refine y_aload_n (q := 23) rfl rfl rfl ?_
        refine y_getR (b := 8) (q := 26) rfl rfl (by decide) atC7 rfl rfl ?_
        refine y_iload_n (q := 27) rfl rfl rfl ?_
        refine y_guard (fun c5 => ?_)
        refine y_iald (n := 8) (N := 8) (X := v3.toInt) (K := v3.toInt.toNat) (q := 28) hbC rfl atC8 rfl rfl c5 rfl rfl ?_
        refine y_ior (q := 29) rfl rfl ?_
        refine y_istore_n (lo' := [some (.ref 7), some (.int v1), some (.int (v2 ||| (h 8 (v3.toInt.toNat)))), some (.int v3)]) (q := 30) rfl (Nat.le_of_ble_eq_true rfl) rfl rfl ?_
        refine y_iinc (z := (v3 + 1)) (lo' := [some (.ref 7), some (.int v1), some (.int (v2 ||| (h 8 (v3.toInt.toNat)))), some (.int (v3 + 1))]) (q := 33) rfl rfl (Nat.le_of_ble_eq_true rfl) (by rw [oi_1]) rfl rfl ?_
        refine y_goto (q := 4) rfl rfl ?_
        exact lz_X0_further_4 hd v1 h k hk n (v2 ||| (h 8 (v3.toInt.toNat))) (v3 + 1)  
      · skip
        refine y_iinc (z := (v3 + 1)) (lo' := [some (.ref 7), some (.int v1), some (.int v2), some (.int (v3 + 1))]) (q := 33) rfl rfl (Nat.le_of_ble_eq_true rfl) (by rw [oi_1]) rfl rfl ?_
        refine y_goto (q := 4) rfl rfl ?_
        exact lz_X0_further_4 hd v1 h k hk n v2 (v3 + 1)  
    · skip
      exact hk v2 v3 
def f_X0_further (v1 : Int32) (h : dH) : Option (Int32) := l_X0_further_4 v1 h (fun v2_6 => (some v2_6)) fuel0 v1 0 
theorem m_X0_further {d : Nat} (hd : 1 ≤ d) (v1 : Int32) (h : dH) : dX shC d 9 [.ref 7, .int v1] (dP h) (f_X0_further v1 h) h := by
  obtain ⟨e, rfl⟩ : ∃ e, d = e + 1 := ⟨d - 1, by omega⟩
  have hd : 0 ≤ e := by omega
  refine dX_of (mj := mj9) (lo := [some (.ref 7), some (.int v1), none, none]) rfl (Nat.le_of_ble_eq_true rfl) rfl ?_
  unfold f_X0_further
  refine y_iload_n (q := 1) rfl rfl rfl ?_
  refine y_istore_n (lo' := [some (.ref 7), some (.int v1), some (.int v1), none]) (q := 2) rfl (Nat.le_of_ble_eq_true rfl) rfl rfl ?_
  refine y_iconst (x := 0) (q := 3) rfl (by decide) rfl ?_
  refine y_istore_n (lo' := [some (.ref 7), some (.int v1), some (.int v1), some (.int 0)]) (q := 4) rfl (Nat.le_of_ble_eq_true rfl) rfl rfl ?_
  refine lz_X0_further_4 hd v1 h _ (fun v2_6 z7 => ?_) fuel0 v1 0  
  refine y_iload_n (q := 37) rfl rfl rfl ?_
  exact y_retP rfl (by decide) rfl rfl
def l_X0_companyOf_7 (v2 : Int32) (h : dH) (k : Int32 → Option (Int32)) : Nat → Int32 → Int32 → Option (Int32)
  | 0, _, _ => none
  | n + 1, v3, v4 => if v4.toInt < 8 then (oP (f_X0_further v3 h) (fun r3 => l_X0_companyOf_7 v2 h k n (r3 &&& v2) (v4 + 1) )) else (k v3 )
theorem lz_X0_companyOf_7 {d : Nat} (hd : 1 ≤ d) (v1 : Int32) (v2 : Int32) (h : dH) (k : Int32 → Option (Int32)) (hk : ∀ (v3 : Int32) (w4 : Int32), dY shC d mj8 (dP h) (k v3) 28 [some (.ref 7), some (.int v1), some (.int v2), some (.int v3), some (.int w4)] [] h) : ∀ (n : Nat) (v3 : Int32) (v4 : Int32), dY shC d mj8 (dP h) (l_X0_companyOf_7 v2 h k n v3 v4) 7 [some (.ref 7), some (.int v1), some (.int v2), some (.int v3), some (.int v4)] [] h
  | 0, _, _ => dY_none
  | n + 1, v3, v4 => by
    rw [l_X0_companyOf_7]
    refine y_iload (q := 9) rfl rfl rfl ?_
    refine y_bipush (x := 8) (q := 11) rfl (by decide) rfl ?_
    refine y_ge (q := 28) (q' := 14) rfl rfl (by decide) rfl rfl (fun c1 => ?_) (fun c2 => ?_)
    · skip
      refine y_aload_n (q := 15) rfl rfl rfl ?_
      refine y_iload_n (q := 16) rfl rfl rfl ?_
      refine y_callP (I := .invokevirtual 45) (idx := 45) (KD := 1) (J := 19) (mj := mj9) (as := [.ref 7, .int v3]) (r := []) (q := 19) rfl (fun _ _ _ _ _ _ => rfl) rfl (by decide) rfl rfl rfl rfl rfl (Nat.le_of_ble_eq_true rfl) (d_recv atC7 (by decide) (by decide)) rfl (m_X0_further (Nat.le_trans (by decide) hd) v3 h) (fun r3 => ?_)
      refine y_iload_n (q := 20) rfl rfl rfl ?_
      refine y_iand (q := 21) rfl rfl ?_
      refine y_istore_n (lo' := [some (.ref 7), some (.int v1), some (.int v2), some (.int (r3 &&& v2)), some (.int v4)]) (q := 22) rfl (Nat.le_of_ble_eq_true rfl) rfl rfl ?_
      refine y_iinc (z := (v4 + 1)) (lo' := [some (.ref 7), some (.int v1), some (.int v2), some (.int (r3 &&& v2)), some (.int (v4 + 1))]) (q := 25) rfl rfl (Nat.le_of_ble_eq_true rfl) (by rw [oi_1]) rfl rfl ?_
      refine y_goto (q := 7) rfl rfl ?_
      exact lz_X0_companyOf_7 hd v1 v2 h k hk n (r3 &&& v2) (v4 + 1)  
    · skip
      exact hk v3 v4 
def f_X0_companyOf (v1 : Int32) (v2 : Int32) (h : dH) : Option (Int32) := l_X0_companyOf_7 v2 h (fun v3_4 => (some v3_4)) fuel0 (dshl 1 v1) 0 
theorem m_X0_companyOf {d : Nat} (hd : 2 ≤ d) (v1 : Int32) (v2 : Int32) (h : dH) : dX shC d 8 [.ref 7, .int v1, .int v2] (dP h) (f_X0_companyOf v1 v2 h) h := by
  obtain ⟨e, rfl⟩ : ∃ e, d = e + 1 := ⟨d - 1, by omega⟩
  have hd : 1 ≤ e := by omega
  refine dX_of (mj := mj8) (lo := [some (.ref 7), some (.int v1), some (.int v2), none, none]) rfl (Nat.le_of_ble_eq_true rfl) rfl ?_
  unfold f_X0_companyOf
  refine y_iconst (x := 1) (q := 1) rfl (by decide) rfl ?_
  refine y_iload_n (q := 2) rfl rfl rfl ?_
  refine y_ishl (q := 3) rfl rfl ?_
  refine y_istore_n (lo' := [some (.ref 7), some (.int v1), some (.int v2), some (.int (dshl 1 v1)), none]) (q := 4) rfl (Nat.le_of_ble_eq_true rfl) rfl rfl ?_
  refine y_iconst (x := 0) (q := 5) rfl (by decide) rfl ?_
  refine y_istore (lo' := [some (.ref 7), some (.int v1), some (.int v2), some (.int (dshl 1 v1)), some (.int 0)]) (q := 7) rfl (Nat.le_of_ble_eq_true rfl) rfl rfl ?_
  refine lz_X0_companyOf_7 hd v1 v2 h _ (fun v3_4 z5 => ?_) fuel0 (dshl 1 v1) 0  
  refine y_iload_n (q := 29) rfl rfl rfl ?_
  exact y_retP rfl (by decide) rfl rfl
def l_X0_companies_7 (v1 : Int32) (h : dH) (k : Int32 → Option (Int32)) : Nat → Int32 → Int32 → Int32 → Option (Int32)
  | 0, _, _, _ => none
  | n + 1, v2, v3, v4 => if v4.toInt < (h 7 0).toInt then (if ((dshr v3 v4) &&& 1).toInt = 1 then (oP (f_X0_companyOf v4 v1 h) (fun r5 => l_X0_companies_7 v1 h k n (v2 + 1) (v3 &&& (r5 ^^^ (-1))) (v4 + 1) )) else (l_X0_companies_7 v1 h k n v2 v3 (v4 + 1) )) else (k v2 )
theorem lz_X0_companies_7 {d : Nat} (hd : 2 ≤ d) (v1 : Int32) (h : dH) (k : Int32 → Option (Int32)) (hk : ∀ (v2 : Int32) (w3 : Int32) (w4 : Int32), dY shC d mj4 (dP h) (k v2) 47 [some (.ref 7), some (.int v1), some (.int v2), some (.int w3), some (.int w4)] [] h) : ∀ (n : Nat) (v2 : Int32) (v3 : Int32) (v4 : Int32), dY shC d mj4 (dP h) (l_X0_companies_7 v1 h k n v2 v3 v4) 7 [some (.ref 7), some (.int v1), some (.int v2), some (.int v3), some (.int v4)] [] h
  | 0, _, _, _ => dY_none
  | n + 1, v2, v3, v4 => by
    rw [l_X0_companies_7]
    refine y_iload (q := 9) rfl rfl rfl ?_
    refine y_aload_n (q := 10) rfl rfl rfl ?_
    refine y_getI (q := 13) rfl rfl (by decide) atC7 rfl rfl ?_
    refine y_ge (q := 47) (q' := 16) rfl rfl rfl rfl rfl (fun c1 => ?_) (fun c2 => ?_)
    · skip
      refine y_iload_n (q := 17) rfl rfl rfl ?_
      refine y_iload (q := 19) rfl rfl rfl ?_
      refine y_ishr (q := 20) rfl rfl ?_
      refine y_iconst (x := 1) (q := 21) rfl (by decide) rfl ?_
      refine y_iand (q := 22) rfl rfl ?_
      refine y_iconst (x := 1) (q := 23) rfl (by decide) rfl ?_
      refine y_ne (q := 41) (q' := 26) rfl rfl (by decide) rfl rfl (fun c3 => ?_) (fun c4 => ?_)
      · skip
        refine y_iinc (z := (v2 + 1)) (lo' := [some (.ref 7), some (.int v1), some (.int (v2 + 1)), some (.int v3), some (.int v4)]) (q := 29) rfl rfl (Nat.le_of_ble_eq_true rfl) (by rw [oi_1]) rfl rfl ?_
        refine y_iload_n (q := 30) rfl rfl rfl ?_
        refine y_aload_n (q := 31) rfl rfl rfl ?_
        refine y_iload (q := 33) rfl rfl rfl ?_
        refine y_iload_n (q := 34) rfl rfl rfl ?_
        refine y_callP (I := .invokevirtual 26) (idx := 26) (KD := 1) (J := 18) (mj := mj8) (as := [.ref 7, .int v4, .int v1]) (r := [.int v3]) (q := 37) rfl (fun _ _ _ _ _ _ => rfl) rfl (by decide) rfl rfl rfl rfl rfl (Nat.le_of_ble_eq_true rfl) (d_recv atC7 (by decide) (by decide)) rfl (m_X0_companyOf (Nat.le_trans (by decide) hd) v4 v1 h) (fun r5 => ?_)
        refine y_iconst (x := (-1)) (q := 38) rfl (by decide) rfl ?_
        refine y_ixor (q := 39) rfl rfl ?_
        refine y_iand (q := 40) rfl rfl ?_
        refine y_istore_n (lo' := [some (.ref 7), some (.int v1), some (.int (v2 + 1)), some (.int (v3 &&& (r5 ^^^ (-1)))), some (.int v4)]) (q := 41) rfl (Nat.le_of_ble_eq_true rfl) rfl rfl ?_
        refine y_iinc (z := (v4 + 1)) (lo' := [some (.ref 7), some (.int v1), some (.int (v2 + 1)), some (.int (v3 &&& (r5 ^^^ (-1)))), some (.int (v4 + 1))]) (q := 44) rfl rfl (Nat.le_of_ble_eq_true rfl) (by rw [oi_1]) rfl rfl ?_
        refine y_goto (q := 7) rfl rfl ?_
        exact lz_X0_companies_7 hd v1 h k hk n (v2 + 1) (v3 &&& (r5 ^^^ (-1))) (v4 + 1)  
      · skip
        refine y_iinc (z := (v4 + 1)) (lo' := [some (.ref 7), some (.int v1), some (.int v2), some (.int v3), some (.int (v4 + 1))]) (q := 44) rfl rfl (Nat.le_of_ble_eq_true rfl) (by rw [oi_1]) rfl rfl ?_
        refine y_goto (q := 7) rfl rfl ?_
        exact lz_X0_companies_7 hd v1 h k hk n v2 v3 (v4 + 1)  
    · skip
      exact hk v2 v3 v4 
def f_X0_companies (v1 : Int32) (h : dH) : Option (Int32) := l_X0_companies_7 v1 h (fun v2_6 => (some v2_6)) fuel0 0 v1 0 
theorem m_X0_companies {d : Nat} (hd : 3 ≤ d) (v1 : Int32) (h : dH) : dX shC d 4 [.ref 7, .int v1] (dP h) (f_X0_companies v1 h) h := by
  obtain ⟨e, rfl⟩ : ∃ e, d = e + 1 := ⟨d - 1, by omega⟩
  have hd : 2 ≤ e := by omega
  refine dX_of (mj := mj4) (lo := [some (.ref 7), some (.int v1), none, none, none]) rfl (Nat.le_of_ble_eq_true rfl) rfl ?_
  unfold f_X0_companies
  refine y_iconst (x := 0) (q := 1) rfl (by decide) rfl ?_
  refine y_istore_n (lo' := [some (.ref 7), some (.int v1), some (.int 0), none, none]) (q := 2) rfl (Nat.le_of_ble_eq_true rfl) rfl rfl ?_
  refine y_iload_n (q := 3) rfl rfl rfl ?_
  refine y_istore_n (lo' := [some (.ref 7), some (.int v1), some (.int 0), some (.int v1), none]) (q := 4) rfl (Nat.le_of_ble_eq_true rfl) rfl rfl ?_
  refine y_iconst (x := 0) (q := 5) rfl (by decide) rfl ?_
  refine y_istore (lo' := [some (.ref 7), some (.int v1), some (.int 0), some (.int v1), some (.int 0)]) (q := 7) rfl (Nat.le_of_ble_eq_true rfl) rfl rfl ?_
  refine lz_X0_companies_7 hd v1 h _ (fun v2_6 z7 z8 => ?_) fuel0 0 v1 0  
  refine y_iload_n (q := 48) rfl rfl rfl ?_
  exact y_retP rfl (by decide) rfl rfl
def f_J6_bitCount_0f7a4 (v0 : Int32) : Option (Int32) := (some ((((((((v0 - ((dushr v0 1) &&& 1431655765)) &&& 858993459) + ((dushr (v0 - ((dushr v0 1) &&& 1431655765)) 2) &&& 858993459)) + (dushr (((v0 - ((dushr v0 1) &&& 1431655765)) &&& 858993459) + ((dushr (v0 - ((dushr v0 1) &&& 1431655765)) 2) &&& 858993459)) 4)) &&& 252645135) + (dushr (((((v0 - ((dushr v0 1) &&& 1431655765)) &&& 858993459) + ((dushr (v0 - ((dushr v0 1) &&& 1431655765)) 2) &&& 858993459)) + (dushr (((v0 - ((dushr v0 1) &&& 1431655765)) &&& 858993459) + ((dushr (v0 - ((dushr v0 1) &&& 1431655765)) 2) &&& 858993459)) 4)) &&& 252645135) 8)) + (dushr ((((((v0 - ((dushr v0 1) &&& 1431655765)) &&& 858993459) + ((dushr (v0 - ((dushr v0 1) &&& 1431655765)) 2) &&& 858993459)) + (dushr (((v0 - ((dushr v0 1) &&& 1431655765)) &&& 858993459) + ((dushr (v0 - ((dushr v0 1) &&& 1431655765)) 2) &&& 858993459)) 4)) &&& 252645135) + (dushr (((((v0 - ((dushr v0 1) &&& 1431655765)) &&& 858993459) + ((dushr (v0 - ((dushr v0 1) &&& 1431655765)) 2) &&& 858993459)) + (dushr (((v0 - ((dushr v0 1) &&& 1431655765)) &&& 858993459) + ((dushr (v0 - ((dushr v0 1) &&& 1431655765)) 2) &&& 858993459)) 4)) &&& 252645135) 8)) 16)) &&& 63))
theorem m_J6_bitCount_0f7a4 {d : Nat} (hd : 1 ≤ d) (v0 : Int32) (h : dH) : dX shC d 233 [.int v0] (dP h) (f_J6_bitCount_0f7a4 v0) h := by
  obtain ⟨e, rfl⟩ : ∃ e, d = e + 1 := ⟨d - 1, by omega⟩
  have hd : 0 ≤ e := by omega
  refine dX_of (mj := mj233) (lo := [some (.int v0)]) rfl (Nat.le_of_ble_eq_true rfl) rfl ?_
  unfold f_J6_bitCount_0f7a4
  refine y_iload_n (q := 1) rfl rfl rfl ?_
  refine y_iload_n (q := 2) rfl rfl rfl ?_
  refine y_iconst (x := 1) (q := 3) rfl (by decide) rfl ?_
  refine y_iushr (q := 4) rfl rfl ?_
  refine y_ldc_w (x := 1431655765) (q := 7) rfl rfl rfl ?_
  refine y_iand (q := 8) rfl rfl ?_
  refine y_isub (q := 9) rfl rfl ?_
  refine y_istore_n (lo' := [some (.int (v0 - ((dushr v0 1) &&& 1431655765)))]) (q := 10) rfl (Nat.le_of_ble_eq_true rfl) rfl rfl ?_
  refine y_iload_n (q := 11) rfl rfl rfl ?_
  refine y_ldc_w (x := 858993459) (q := 14) rfl rfl rfl ?_
  refine y_iand (q := 15) rfl rfl ?_
  refine y_iload_n (q := 16) rfl rfl rfl ?_
  refine y_iconst (x := 2) (q := 17) rfl (by decide) rfl ?_
  refine y_iushr (q := 18) rfl rfl ?_
  refine y_ldc_w (x := 858993459) (q := 21) rfl rfl rfl ?_
  refine y_iand (q := 22) rfl rfl ?_
  refine y_iadd (q := 23) rfl rfl ?_
  refine y_istore_n (lo' := [some (.int (((v0 - ((dushr v0 1) &&& 1431655765)) &&& 858993459) + ((dushr (v0 - ((dushr v0 1) &&& 1431655765)) 2) &&& 858993459)))]) (q := 24) rfl (Nat.le_of_ble_eq_true rfl) rfl rfl ?_
  refine y_iload_n (q := 25) rfl rfl rfl ?_
  refine y_iload_n (q := 26) rfl rfl rfl ?_
  refine y_iconst (x := 4) (q := 27) rfl (by decide) rfl ?_
  refine y_iushr (q := 28) rfl rfl ?_
  refine y_iadd (q := 29) rfl rfl ?_
  refine y_ldc_w (x := 252645135) (q := 32) rfl rfl rfl ?_
  refine y_iand (q := 33) rfl rfl ?_
  refine y_istore_n (lo' := [some (.int (((((v0 - ((dushr v0 1) &&& 1431655765)) &&& 858993459) + ((dushr (v0 - ((dushr v0 1) &&& 1431655765)) 2) &&& 858993459)) + (dushr (((v0 - ((dushr v0 1) &&& 1431655765)) &&& 858993459) + ((dushr (v0 - ((dushr v0 1) &&& 1431655765)) 2) &&& 858993459)) 4)) &&& 252645135))]) (q := 34) rfl (Nat.le_of_ble_eq_true rfl) rfl rfl ?_
  refine y_iload_n (q := 35) rfl rfl rfl ?_
  refine y_iload_n (q := 36) rfl rfl rfl ?_
  refine y_bipush (x := 8) (q := 38) rfl (by decide) rfl ?_
  refine y_iushr (q := 39) rfl rfl ?_
  refine y_iadd (q := 40) rfl rfl ?_
  refine y_istore_n (lo' := [some (.int ((((((v0 - ((dushr v0 1) &&& 1431655765)) &&& 858993459) + ((dushr (v0 - ((dushr v0 1) &&& 1431655765)) 2) &&& 858993459)) + (dushr (((v0 - ((dushr v0 1) &&& 1431655765)) &&& 858993459) + ((dushr (v0 - ((dushr v0 1) &&& 1431655765)) 2) &&& 858993459)) 4)) &&& 252645135) + (dushr (((((v0 - ((dushr v0 1) &&& 1431655765)) &&& 858993459) + ((dushr (v0 - ((dushr v0 1) &&& 1431655765)) 2) &&& 858993459)) + (dushr (((v0 - ((dushr v0 1) &&& 1431655765)) &&& 858993459) + ((dushr (v0 - ((dushr v0 1) &&& 1431655765)) 2) &&& 858993459)) 4)) &&& 252645135) 8)))]) (q := 41) rfl (Nat.le_of_ble_eq_true rfl) rfl rfl ?_
  refine y_iload_n (q := 42) rfl rfl rfl ?_
  refine y_iload_n (q := 43) rfl rfl rfl ?_
  refine y_bipush (x := 16) (q := 45) rfl (by decide) rfl ?_
  refine y_iushr (q := 46) rfl rfl ?_
  refine y_iadd (q := 47) rfl rfl ?_
  refine y_istore_n (lo' := [some (.int (((((((v0 - ((dushr v0 1) &&& 1431655765)) &&& 858993459) + ((dushr (v0 - ((dushr v0 1) &&& 1431655765)) 2) &&& 858993459)) + (dushr (((v0 - ((dushr v0 1) &&& 1431655765)) &&& 858993459) + ((dushr (v0 - ((dushr v0 1) &&& 1431655765)) 2) &&& 858993459)) 4)) &&& 252645135) + (dushr (((((v0 - ((dushr v0 1) &&& 1431655765)) &&& 858993459) + ((dushr (v0 - ((dushr v0 1) &&& 1431655765)) 2) &&& 858993459)) + (dushr (((v0 - ((dushr v0 1) &&& 1431655765)) &&& 858993459) + ((dushr (v0 - ((dushr v0 1) &&& 1431655765)) 2) &&& 858993459)) 4)) &&& 252645135) 8)) + (dushr ((((((v0 - ((dushr v0 1) &&& 1431655765)) &&& 858993459) + ((dushr (v0 - ((dushr v0 1) &&& 1431655765)) 2) &&& 858993459)) + (dushr (((v0 - ((dushr v0 1) &&& 1431655765)) &&& 858993459) + ((dushr (v0 - ((dushr v0 1) &&& 1431655765)) 2) &&& 858993459)) 4)) &&& 252645135) + (dushr (((((v0 - ((dushr v0 1) &&& 1431655765)) &&& 858993459) + ((dushr (v0 - ((dushr v0 1) &&& 1431655765)) 2) &&& 858993459)) + (dushr (((v0 - ((dushr v0 1) &&& 1431655765)) &&& 858993459) + ((dushr (v0 - ((dushr v0 1) &&& 1431655765)) 2) &&& 858993459)) 4)) &&& 252645135) 8)) 16)))]) (q := 48) rfl (Nat.le_of_ble_eq_true rfl) rfl rfl ?_
  refine y_iload_n (q := 49) rfl rfl rfl ?_
  refine y_bipush (x := 63) (q := 51) rfl (by decide) rfl ?_
  refine y_iand (q := 52) rfl rfl ?_
  exact y_retP rfl (by decide) rfl rfl
def l_X0_largestCompany_4  (h : dH) (k : Int32 → Option (Int32)) : Nat → Int32 → Int32 → Option (Int32)
  | 0, _, _ => none
  | n + 1, v1, v2 => if v2.toInt < (h 7 0).toInt then (oP (f_X0_everyone  h) (fun r3 => oP (f_X0_companyOf v2 r3 h) (fun r4 => oP (f_J6_bitCount_0f7a4 r4) (fun r5 => l_X0_largestCompany_4  h k n (dmax v1 r5) (v2 + 1) )))) else (k v1 )
theorem lz_X0_largestCompany_4 {d : Nat} (hd : 2 ≤ d)  (h : dH) (k : Int32 → Option (Int32)) (hk : ∀ (v1 : Int32) (w2 : Int32), dY shC d mj5 (dP h) (k v1) 35 [some (.ref 7), some (.int v1), some (.int w2)] [] h) : ∀ (n : Nat) (v1 : Int32) (v2 : Int32), dY shC d mj5 (dP h) (l_X0_largestCompany_4  h k n v1 v2) 4 [some (.ref 7), some (.int v1), some (.int v2)] [] h
  | 0, _, _ => dY_none
  | n + 1, v1, v2 => by
    rw [l_X0_largestCompany_4]
    refine y_iload_n (q := 5) rfl rfl rfl ?_
    refine y_aload_n (q := 6) rfl rfl rfl ?_
    refine y_getI (q := 9) rfl rfl (by decide) atC7 rfl rfl ?_
    refine y_ge (q := 35) (q' := 12) rfl rfl rfl rfl rfl (fun c1 => ?_) (fun c2 => ?_)
    · skip
      refine y_iload_n (q := 13) rfl rfl rfl ?_
      refine y_aload_n (q := 14) rfl rfl rfl ?_
      refine y_iload_n (q := 15) rfl rfl rfl ?_
      refine y_aload_n (q := 16) rfl rfl rfl ?_
      refine y_callP (I := .invokevirtual 30) (idx := 30) (KD := 1) (J := 12) (mj := mj2) (as := [.ref 7]) (r := [.int v2, .ref 7, .int v1]) (q := 19) rfl (fun _ _ _ _ _ _ => rfl) rfl (by decide) rfl rfl rfl rfl rfl (Nat.le_of_ble_eq_true rfl) (d_recv atC7 (by decide) (by decide)) rfl (m_X0_everyone (Nat.le_trans (by decide) hd)  h) (fun r3 => ?_)
      refine y_callP (I := .invokevirtual 26) (idx := 26) (KD := 1) (J := 18) (mj := mj8) (as := [.ref 7, .int v2, .int r3]) (r := [.int v1]) (q := 22) rfl (fun _ _ _ _ _ _ => rfl) rfl (by decide) rfl rfl rfl rfl rfl (Nat.le_of_ble_eq_true rfl) (d_recv atC7 (by decide) (by decide)) rfl (m_X0_companyOf (Nat.le_trans (by decide) hd) v2 r3 h) (fun r4 => ?_)
      refine y_callP (I := .invokestatic 34) (idx := 34) (KD := 0) (J := 243) (mj := mj233) (as := [.int r4]) (r := [.int v1]) (q := 25) rfl (fun _ _ _ _ _ _ => rfl) rfl (by decide) rfl rfl rfl rfl rfl (Nat.le_of_ble_eq_true rfl) rfl rfl (m_J6_bitCount_0f7a4 (Nat.le_trans (by decide) hd) r4 h) (fun r5 => ?_)
      refine y_max (q := 28) rfl rfl (Nat.le_of_ble_eq_true rfl) rfl ?_
      refine y_istore_n (lo' := [some (.ref 7), some (.int (dmax v1 r5)), some (.int v2)]) (q := 29) rfl (Nat.le_of_ble_eq_true rfl) rfl rfl ?_
      refine y_iinc (z := (v2 + 1)) (lo' := [some (.ref 7), some (.int (dmax v1 r5)), some (.int (v2 + 1))]) (q := 32) rfl rfl (Nat.le_of_ble_eq_true rfl) (by rw [oi_1]) rfl rfl ?_
      refine y_goto (q := 4) rfl rfl ?_
      exact lz_X0_largestCompany_4 hd  h k hk n (dmax v1 r5) (v2 + 1)  
    · skip
      exact hk v1 v2 
def f_X0_largestCompany  (h : dH) : Option (Int32) := l_X0_largestCompany_4  h (fun v1_6 => (some v1_6)) fuel0 0 0 
theorem m_X0_largestCompany {d : Nat} (hd : 3 ≤ d)  (h : dH) : dX shC d 5 [.ref 7] (dP h) (f_X0_largestCompany  h) h := by
  obtain ⟨e, rfl⟩ : ∃ e, d = e + 1 := ⟨d - 1, by omega⟩
  have hd : 2 ≤ e := by omega
  refine dX_of (mj := mj5) (lo := [some (.ref 7), none, none]) rfl (Nat.le_of_ble_eq_true rfl) rfl ?_
  unfold f_X0_largestCompany
  refine y_iconst (x := 0) (q := 1) rfl (by decide) rfl ?_
  refine y_istore_n (lo' := [some (.ref 7), some (.int 0), none]) (q := 2) rfl (Nat.le_of_ble_eq_true rfl) rfl rfl ?_
  refine y_iconst (x := 0) (q := 3) rfl (by decide) rfl ?_
  refine y_istore_n (lo' := [some (.ref 7), some (.int 0), some (.int 0)]) (q := 4) rfl (Nat.le_of_ble_eq_true rfl) rfl rfl ?_
  refine lz_X0_largestCompany_4 hd  h _ (fun v1_6 z7 => ?_) fuel0 0 0  
  refine y_iload_n (q := 36) rfl rfl rfl ?_
  exact y_retP rfl (by decide) rfl rfl
def l_X0_distance_7 (v2 : Int32) (h : dH) (k : Option (Int32)) : Nat → Int32 → Int32 → Option (Int32)
  | 0, _, _ => none
  | n + 1, v3, v4 => if v4.toInt < 8 then (if ((dshr v3 v2) &&& 1).toInt = 1 then ((some v4)) else (oP (f_X0_further v3 h) (fun r5 => l_X0_distance_7 v2 h k n r5 (v4 + 1) ))) else (k  )
theorem lz_X0_distance_7 {d : Nat} (hd : 1 ≤ d) (v1 : Int32) (v2 : Int32) (h : dH) (k : Option (Int32)) (hk : ∀ (w3 : Int32) (w4 : Int32), dY shC d mj6 (dP h) (k ) 38 [some (.ref 7), some (.int v1), some (.int v2), some (.int w3), some (.int w4)] [] h) : ∀ (n : Nat) (v3 : Int32) (v4 : Int32), dY shC d mj6 (dP h) (l_X0_distance_7 v2 h k n v3 v4) 7 [some (.ref 7), some (.int v1), some (.int v2), some (.int v3), some (.int v4)] [] h
  | 0, _, _ => dY_none
  | n + 1, v3, v4 => by
    rw [l_X0_distance_7]
    refine y_iload (q := 9) rfl rfl rfl ?_
    refine y_bipush (x := 8) (q := 11) rfl (by decide) rfl ?_
    refine y_ge (q := 38) (q' := 14) rfl rfl (by decide) rfl rfl (fun c1 => ?_) (fun c2 => ?_)
    · skip
      refine y_iload_n (q := 15) rfl rfl rfl ?_
      refine y_iload_n (q := 16) rfl rfl rfl ?_
      refine y_ishr (q := 17) rfl rfl ?_
      refine y_iconst (x := 1) (q := 18) rfl (by decide) rfl ?_
      refine y_iand (q := 19) rfl rfl ?_
      refine y_iconst (x := 1) (q := 20) rfl (by decide) rfl ?_
      refine y_ne (q := 26) (q' := 23) rfl rfl (by decide) rfl rfl (fun c3 => ?_) (fun c4 => ?_)
      · skip
        refine y_iload (q := 25) rfl rfl rfl ?_
        exact y_retP rfl (by decide) rfl rfl
      · skip
        refine y_aload_n (q := 27) rfl rfl rfl ?_
        refine y_iload_n (q := 28) rfl rfl rfl ?_
        refine y_callP (I := .invokevirtual 45) (idx := 45) (KD := 1) (J := 19) (mj := mj9) (as := [.ref 7, .int v3]) (r := []) (q := 31) rfl (fun _ _ _ _ _ _ => rfl) rfl (by decide) rfl rfl rfl rfl rfl (Nat.le_of_ble_eq_true rfl) (d_recv atC7 (by decide) (by decide)) rfl (m_X0_further (Nat.le_trans (by decide) hd) v3 h) (fun r5 => ?_)
        refine y_istore_n (lo' := [some (.ref 7), some (.int v1), some (.int v2), some (.int r5), some (.int v4)]) (q := 32) rfl (Nat.le_of_ble_eq_true rfl) rfl rfl ?_
        refine y_iinc (z := (v4 + 1)) (lo' := [some (.ref 7), some (.int v1), some (.int v2), some (.int r5), some (.int (v4 + 1))]) (q := 35) rfl rfl (Nat.le_of_ble_eq_true rfl) (by rw [oi_1]) rfl rfl ?_
        refine y_goto (q := 7) rfl rfl ?_
        exact lz_X0_distance_7 hd v1 v2 h k hk n r5 (v4 + 1)  
    · skip
      exact hk  v3 v4 
def f_X0_distance (v1 : Int32) (v2 : Int32) (h : dH) : Option (Int32) := l_X0_distance_7 v2 h ((some (-1))) fuel0 (dshl 1 v1) 0 
theorem m_X0_distance {d : Nat} (hd : 2 ≤ d) (v1 : Int32) (v2 : Int32) (h : dH) : dX shC d 6 [.ref 7, .int v1, .int v2] (dP h) (f_X0_distance v1 v2 h) h := by
  obtain ⟨e, rfl⟩ : ∃ e, d = e + 1 := ⟨d - 1, by omega⟩
  have hd : 1 ≤ e := by omega
  refine dX_of (mj := mj6) (lo := [some (.ref 7), some (.int v1), some (.int v2), none, none]) rfl (Nat.le_of_ble_eq_true rfl) rfl ?_
  unfold f_X0_distance
  refine y_iconst (x := 1) (q := 1) rfl (by decide) rfl ?_
  refine y_iload_n (q := 2) rfl rfl rfl ?_
  refine y_ishl (q := 3) rfl rfl ?_
  refine y_istore_n (lo' := [some (.ref 7), some (.int v1), some (.int v2), some (.int (dshl 1 v1)), none]) (q := 4) rfl (Nat.le_of_ble_eq_true rfl) rfl rfl ?_
  refine y_iconst (x := 0) (q := 5) rfl (by decide) rfl ?_
  refine y_istore (lo' := [some (.ref 7), some (.int v1), some (.int v2), some (.int (dshl 1 v1)), some (.int 0)]) (q := 7) rfl (Nat.le_of_ble_eq_true rfl) rfl rfl ?_
  refine lz_X0_distance_7 hd v1 v2 h _ (fun z6 z7 => ?_) fuel0 (dshl 1 v1) 0  
  refine y_iconst (x := (-1)) (q := 39) rfl (by decide) rfl ?_
  exact y_retP rfl (by decide) rfl rfl
def l_X0_longestWay_17 (v1 : Int32) (v3 : Int32) (h : dH) (k : Int32 → Option (Int32)) : Nat → Int32 → Int32 → Option (Int32)
  | 0, _, _ => none
  | n + 1, v2, v4 => if v4.toInt < (h 7 0).toInt then (oP (f_X0_distance v3 v4 h) (fun r5 => if r5.toInt = (-1) then (l_X0_longestWay_17 v1 v3 h k n (dmax v2 v1) (v4 + 1) ) else (l_X0_longestWay_17 v1 v3 h k n (dmax v2 r5) (v4 + 1) ))) else (k v2 )
theorem lz_X0_longestWay_17 {d : Nat} (hd : 2 ≤ d) (v1 : Int32) (v3 : Int32) (h : dH) (k : Int32 → Option (Int32)) (hk : ∀ (v2 : Int32) (w4 : Int32) (z5 : Option Value), dY shC d mj7 (dP h) (k v2) 58 [some (.ref 7), some (.int v1), some (.int v2), some (.int v3), some (.int w4), z5] [] h) : ∀ (n : Nat) (v2 : Int32) (v4 : Int32) (z5 : Option Value), dY shC d mj7 (dP h) (l_X0_longestWay_17 v1 v3 h k n v2 v4) 17 [some (.ref 7), some (.int v1), some (.int v2), some (.int v3), some (.int v4), z5] [] h
  | 0, _, _, _ => dY_none
  | n + 1, v2, v4, z5 => by
    rw [l_X0_longestWay_17]
    refine y_iload (q := 19) rfl rfl rfl ?_
    refine y_aload_n (q := 20) rfl rfl rfl ?_
    refine y_getI (q := 23) rfl rfl (by decide) atC7 rfl rfl ?_
    refine y_ge (q := 58) (q' := 26) rfl rfl rfl rfl rfl (fun c3 => ?_) (fun c4 => ?_)
    · skip
      refine y_aload_n (q := 27) rfl rfl rfl ?_
      refine y_iload_n (q := 28) rfl rfl rfl ?_
      refine y_iload (q := 30) rfl rfl rfl ?_
      refine y_callP (I := .invokevirtual 48) (idx := 48) (KD := 1) (J := 16) (mj := mj6) (as := [.ref 7, .int v3, .int v4]) (r := []) (q := 33) rfl (fun _ _ _ _ _ _ => rfl) rfl (by decide) rfl rfl rfl rfl rfl (Nat.le_of_ble_eq_true rfl) (d_recv atC7 (by decide) (by decide)) rfl (m_X0_distance (Nat.le_trans (by decide) hd) v3 v4 h) (fun r5 => ?_)
      refine y_istore (lo' := [some (.ref 7), some (.int v1), some (.int v2), some (.int v3), some (.int v4), some (.int r5)]) (q := 35) rfl (Nat.le_of_ble_eq_true rfl) rfl rfl ?_
      refine y_iload_n (q := 36) rfl rfl rfl ?_
      refine y_iload (q := 38) rfl rfl rfl ?_
      refine y_iconst (x := (-1)) (q := 39) rfl (by decide) rfl ?_
      refine y_ne (q := 46) (q' := 42) rfl rfl (by decide) rfl rfl (fun c6 => ?_) (fun c7 => ?_)
      · skip
        refine y_iload_n (q := 43) rfl rfl rfl ?_
        refine y_goto (q := 48) rfl rfl ?_
        refine y_max (q := 51) rfl rfl (Nat.le_of_ble_eq_true rfl) rfl ?_
        refine y_istore_n (lo' := [some (.ref 7), some (.int v1), some (.int (dmax v2 v1)), some (.int v3), some (.int v4), some (.int r5)]) (q := 52) rfl (Nat.le_of_ble_eq_true rfl) rfl rfl ?_
        refine y_iinc (z := (v4 + 1)) (lo' := [some (.ref 7), some (.int v1), some (.int (dmax v2 v1)), some (.int v3), some (.int (v4 + 1)), some (.int r5)]) (q := 55) rfl rfl (Nat.le_of_ble_eq_true rfl) (by rw [oi_1]) rfl rfl ?_
        refine y_goto (q := 17) rfl rfl ?_
        exact lz_X0_longestWay_17 hd v1 v3 h k hk n (dmax v2 v1) (v4 + 1)  (some (.int r5))
      · skip
        refine y_iload (q := 48) rfl rfl rfl ?_
        refine y_max (q := 51) rfl rfl (Nat.le_of_ble_eq_true rfl) rfl ?_
        refine y_istore_n (lo' := [some (.ref 7), some (.int v1), some (.int (dmax v2 r5)), some (.int v3), some (.int v4), some (.int r5)]) (q := 52) rfl (Nat.le_of_ble_eq_true rfl) rfl rfl ?_
        refine y_iinc (z := (v4 + 1)) (lo' := [some (.ref 7), some (.int v1), some (.int (dmax v2 r5)), some (.int v3), some (.int (v4 + 1)), some (.int r5)]) (q := 55) rfl rfl (Nat.le_of_ble_eq_true rfl) (by rw [oi_1]) rfl rfl ?_
        refine y_goto (q := 17) rfl rfl ?_
        exact lz_X0_longestWay_17 hd v1 v3 h k hk n (dmax v2 r5) (v4 + 1)  (some (.int r5))
    · skip
      exact hk v2 v4 (z5) 
def l_X0_longestWay_4 (v1 : Int32) (h : dH) (k : Int32 → Option (Int32)) : Nat → Int32 → Int32 → Option (Int32)
  | 0, _, _ => none
  | n + 1, v2, v3 => if v3.toInt < (h 7 0).toInt then (l_X0_longestWay_17 v1 v3 h (fun v2_8 => l_X0_longestWay_4 v1 h k n v2_8 (v3 + 1) ) fuel0 v2 (v3 + 1) ) else (k v2 )
theorem lz_X0_longestWay_4 {d : Nat} (hd : 2 ≤ d) (v1 : Int32) (h : dH) (k : Int32 → Option (Int32)) (hk : ∀ (v2 : Int32) (w3 : Int32) (z4 : Option Value) (z5 : Option Value), dY shC d mj7 (dP h) (k v2) 64 [some (.ref 7), some (.int v1), some (.int v2), some (.int w3), z4, z5] [] h) : ∀ (n : Nat) (v2 : Int32) (v3 : Int32) (z4 : Option Value) (z5 : Option Value), dY shC d mj7 (dP h) (l_X0_longestWay_4 v1 h k n v2 v3) 4 [some (.ref 7), some (.int v1), some (.int v2), some (.int v3), z4, z5] [] h
  | 0, _, _, _, _ => dY_none
  | n + 1, v2, v3, z4, z5 => by
    rw [l_X0_longestWay_4]
    refine y_iload_n (q := 5) rfl rfl rfl ?_
    refine y_aload_n (q := 6) rfl rfl rfl ?_
    refine y_getI (q := 9) rfl rfl (by decide) atC7 rfl rfl ?_
    refine y_ge (q := 64) (q' := 12) rfl rfl rfl rfl rfl (fun c1 => ?_) (fun c2 => ?_)
    · skip
      refine y_iload_n (q := 13) rfl rfl rfl ?_
      refine y_iconst (x := 1) (q := 14) rfl (by decide) rfl ?_
      refine y_iadd (q := 15) rfl rfl ?_
      refine y_istore (lo' := [some (.ref 7), some (.int v1), some (.int v2), some (.int v3), some (.int (v3 + 1)), z5]) (q := 17) rfl (Nat.le_of_ble_eq_true rfl) rfl rfl ?_
      refine lz_X0_longestWay_17 hd v1 v3 h _ (fun v2_8 z9 z10 => ?_) fuel0 v2 (v3 + 1)  (z5)
      refine y_iinc (z := (v3 + 1)) (lo' := [some (.ref 7), some (.int v1), some (.int v2_8), some (.int (v3 + 1)), some (.int z9), z10]) (q := 61) rfl rfl (Nat.le_of_ble_eq_true rfl) (by rw [oi_1]) rfl rfl ?_
      refine y_goto (q := 4) rfl rfl ?_
      exact lz_X0_longestWay_4 hd v1 h k hk n v2_8 (v3 + 1)  (some (.int z9)) (z10)
    · skip
      exact hk v2 v3 (z4) (z5) 
def f_X0_longestWay (v1 : Int32) (h : dH) : Option (Int32) := l_X0_longestWay_4 v1 h (fun v2_11 => (some v2_11)) fuel0 0 0 
theorem m_X0_longestWay {d : Nat} (hd : 3 ≤ d) (v1 : Int32) (h : dH) : dX shC d 7 [.ref 7, .int v1] (dP h) (f_X0_longestWay v1 h) h := by
  obtain ⟨e, rfl⟩ : ∃ e, d = e + 1 := ⟨d - 1, by omega⟩
  have hd : 2 ≤ e := by omega
  refine dX_of (mj := mj7) (lo := [some (.ref 7), some (.int v1), none, none, none, none]) rfl (Nat.le_of_ble_eq_true rfl) rfl ?_
  unfold f_X0_longestWay
  refine y_iconst (x := 0) (q := 1) rfl (by decide) rfl ?_
  refine y_istore_n (lo' := [some (.ref 7), some (.int v1), some (.int 0), none, none, none]) (q := 2) rfl (Nat.le_of_ble_eq_true rfl) rfl rfl ?_
  refine y_iconst (x := 0) (q := 3) rfl (by decide) rfl ?_
  refine y_istore_n (lo' := [some (.ref 7), some (.int v1), some (.int 0), some (.int 0), none, none]) (q := 4) rfl (Nat.le_of_ble_eq_true rfl) rfl rfl ?_
  refine lz_X0_longestWay_4 hd v1 h _ (fun v2_11 z12 z13 z14 => ?_) fuel0 0 0  (none) (none)
  refine y_iload_n (q := 65) rfl rfl rfl ?_
  exact y_retP rfl (by decide) rfl rfl
def f_X5_write (a0 : Nat) (v1 : Int32) (h : dH) : Option (dH) := if (h a0 1).toInt < 160 then (if 0 ≤ (h a0 1).toInt ∧ (h a0 1).toInt < 160 then (oH (dU h (a0 + 1) ((h a0 1).toInt.toNat) v1) (fun g3 => oH (dU g3 a0 1 ((g3 a0 1) + 1)) (fun g5 => some g5))) else none) else (some h)
theorem m_X5_write {d : Nat} (hd : 1 ≤ d) (a0 : Nat) (ha0 : zT a0) (v1 : Int32) (h : dH) : dX shC d 60 [.ref a0, .int v1] dV (f_X5_write a0 v1 h) h := by
  obtain ⟨e, rfl⟩ : ∃ e, d = e + 1 := ⟨d - 1, by omega⟩
  have hd : 0 ≤ e := by omega
  refine dX_of (mj := mj60) (lo := [some (.ref a0), some (.int v1)]) rfl (Nat.le_of_ble_eq_true rfl) rfl ?_
  unfold f_X5_write
  refine y_aload_n (q := 1) rfl rfl rfl ?_
  refine y_getI (q := 4) rfl rfl (by decide) (shT ha0) rfl rfl ?_
  refine y_sipush (x := 160) (q := 7) rfl (by decide) rfl ?_
  refine y_ge (q := 30) (q' := 10) rfl rfl (by decide) rfl rfl (fun c1 => ?_) (fun c2 => ?_)
  · skip
    refine y_aload_n (q := 11) rfl rfl rfl ?_
    refine y_getR (b := (a0 + 1)) (q := 14) rfl rfl (by decide) (shT ha0) rfl rfl ?_
    refine y_aload_n (q := 15) rfl rfl rfl ?_
    refine y_getI (q := 18) rfl rfl (by decide) (shT ha0) rfl rfl ?_
    refine y_iload_n (q := 19) rfl rfl rfl ?_
    refine y_guard (fun c4 => ?_)
    refine y_iast (n := 160) (N := 160) (X := (h a0 1).toInt) (K := (h a0 1).toInt.toNat) (q := 20) rfl (shT1 ha0) rfl rfl c4 rfl rfl (fun g3 => ?_)
    refine y_aload_n (q := 21) rfl rfl rfl ?_
    refine y_dup (q := 22) rfl rfl ?_
    refine y_getI (q := 25) rfl rfl (by decide) (shT ha0) rfl rfl ?_
    refine y_iconst (x := 1) (q := 26) rfl (by decide) rfl ?_
    refine y_iadd (q := 27) rfl rfl ?_
    refine y_putI (q := 30) rfl rfl (by decide) (shT ha0) rfl rfl rfl rfl (fun g5 => ?_)
    exact y_retV rfl rfl rfl
  · skip
    exact y_retV rfl rfl rfl
def f_X5_endPart (a0 : Nat) (v1 : Int32) (h : dH) : Option (dH) := if 0 ≤ v1.toInt ∧ v1.toInt < 3 then (oH (dU h (a0 + 2) (v1.toInt.toNat) (h a0 1)) (fun g1 => some g1)) else none
theorem m_X5_endPart {d : Nat} (hd : 1 ≤ d) (a0 : Nat) (ha0 : zT a0) (v1 : Int32) (h : dH) : dX shC d 61 [.ref a0, .int v1] dV (f_X5_endPart a0 v1 h) h := by
  obtain ⟨e, rfl⟩ : ∃ e, d = e + 1 := ⟨d - 1, by omega⟩
  have hd : 0 ≤ e := by omega
  refine dX_of (mj := mj61) (lo := [some (.ref a0), some (.int v1)]) rfl (Nat.le_of_ble_eq_true rfl) rfl ?_
  unfold f_X5_endPart
  refine y_aload_n (q := 1) rfl rfl rfl ?_
  refine y_getR (b := (a0 + 2)) (q := 4) rfl rfl (by decide) (shT ha0) rfl rfl ?_
  refine y_iload_n (q := 5) rfl rfl rfl ?_
  refine y_aload_n (q := 6) rfl rfl rfl ?_
  refine y_getI (q := 9) rfl rfl (by decide) (shT ha0) rfl rfl ?_
  refine y_guard (fun c2 => ?_)
  refine y_iast (n := 3) (N := 3) (X := v1.toInt) (K := v1.toInt.toNat) (q := 10) rfl (shT2 ha0) rfl rfl c2 rfl rfl (fun g1 => ?_)
  exact y_retV rfl rfl rfl
def f_X4_isDigit (v0 : Int32) : Option (Int32) := if v0.toInt < 48 then ((some 0)) else (if 57 < v0.toInt then ((some 0)) else ((some 1)))
theorem m_X4_isDigit {d : Nat} (hd : 1 ≤ d) (v0 : Int32) (h : dH) : dX shC d 56 [.int v0] (dP h) (f_X4_isDigit v0) h := by
  obtain ⟨e, rfl⟩ : ∃ e, d = e + 1 := ⟨d - 1, by omega⟩
  have hd : 0 ≤ e := by omega
  refine dX_of (mj := mj56) (lo := [some (.int v0)]) rfl (Nat.le_of_ble_eq_true rfl) rfl ?_
  unfold f_X4_isDigit
  refine y_iload_n (q := 1) rfl rfl rfl ?_
  refine y_bipush (x := 48) (q := 3) rfl (by decide) rfl ?_
  refine y_lt (q := 16) (q' := 6) rfl rfl (by decide) rfl rfl (fun c1 => ?_) (fun c2 => ?_)
  · skip
    refine y_iconst (x := 0) (q := 17) rfl (by decide) rfl ?_
    exact y_retP rfl (by decide) rfl rfl
  · skip
    refine y_iload_n (q := 7) rfl rfl rfl ?_
    refine y_bipush (x := 57) (q := 9) rfl (by decide) rfl ?_
    refine y_gt (q := 16) (q' := 12) rfl rfl (by decide) rfl rfl (fun c3 => ?_) (fun c4 => ?_)
    · skip
      refine y_iconst (x := 0) (q := 17) rfl (by decide) rfl ?_
      exact y_retP rfl (by decide) rfl rfl
    · skip
      refine y_iconst (x := 1) (q := 13) rfl (by decide) rfl ?_
      refine y_goto (q := 17) rfl rfl ?_
      exact y_retP rfl (by decide) rfl rfl
def l_X4_cutNumber_2  (k : Int32 → dH → Option (dH)) : Nat → Int32 → dH → Option (dH)
  | 0, _, _ => none
  | n + 1, v2, h => if (h 1 5).toInt < (h 1 0).toInt then (if 0 ≤ (h 1 5).toInt ∧ (h 1 5).toInt < 160 then (oP (f_X4_isDigit (h 5 ((h 1 5).toInt.toNat))) (fun r4 => if r4.toInt = 0 then (k v2 h) else (if 0 ≤ (h 1 5).toInt ∧ (h 1 5).toInt < 160 then (oH (dU h 1 5 ((h 1 5) + 1)) (fun g8 => l_X4_cutNumber_2  k n (((v2 * 10) + (h 5 ((h 1 5).toInt.toNat))) - 48) g8)) else none))) else none) else (k v2 h)
theorem lz_X4_cutNumber_2 {d : Nat} (hd : 1 ≤ d) (v1 : Int32) (k : Int32 → dH → Option (dH)) (hk : ∀ (v2 : Int32) (h : dH), dY shC d mj50 dV (k v2 h) 59 [some (.ref 1), some (.int v1), some (.int v2)] [] h) : ∀ (n : Nat) (v2 : Int32) (h : dH), dY shC d mj50 dV (l_X4_cutNumber_2  k n v2 h) 2 [some (.ref 1), some (.int v1), some (.int v2)] [] h
  | 0, _, _ => dY_none
  | n + 1, v2, h => by
    rw [l_X4_cutNumber_2]
    refine y_aload_n (q := 3) rfl rfl rfl ?_
    refine y_getI (q := 6) rfl rfl (by decide) atC1 rfl rfl ?_
    refine y_aload_n (q := 7) rfl rfl rfl ?_
    refine y_getI (q := 10) rfl rfl (by decide) atC1 rfl rfl ?_
    refine y_ge (q := 59) (q' := 13) rfl rfl rfl rfl rfl (fun c1 => ?_) (fun c2 => ?_)
    · skip
      refine y_aload_n (q := 14) rfl rfl rfl ?_
      refine y_getR (b := 5) (q := 17) rfl rfl (by decide) atC1 rfl rfl ?_
      refine y_aload_n (q := 18) rfl rfl rfl ?_
      refine y_getI (q := 21) rfl rfl (by decide) atC1 rfl rfl ?_
      refine y_guard (fun c3 => ?_)
      refine y_iald (n := 160) (N := 160) (X := (h 1 5).toInt) (K := (h 1 5).toInt.toNat) (q := 22) hbC rfl atC5 rfl rfl c3 rfl rfl ?_
      refine y_callP (I := .invokestatic 35) (idx := 35) (KD := 0) (J := 66) (mj := mj56) (as := [.int (h 5 ((h 1 5).toInt.toNat))]) (r := []) (q := 25) rfl (fun _ _ _ _ _ _ => rfl) rfl (by decide) rfl rfl rfl rfl rfl (Nat.le_of_ble_eq_true rfl) rfl rfl (m_X4_isDigit (Nat.le_trans (by decide) hd) (h 5 ((h 1 5).toInt.toNat)) h) (fun r4 => ?_)
      refine y_eq0 (q := 59) (q' := 28) rfl rfl rfl rfl (fun c5 => ?_) (fun c6 => ?_)
      · skip
        exact hk v2  h
      · skip
        refine y_iload_n (q := 29) rfl rfl rfl ?_
        refine y_bipush (x := 10) (q := 31) rfl (by decide) rfl ?_
        refine y_imul (q := 32) rfl rfl ?_
        refine y_aload_n (q := 33) rfl rfl rfl ?_
        refine y_getR (b := 5) (q := 36) rfl rfl (by decide) atC1 rfl rfl ?_
        refine y_aload_n (q := 37) rfl rfl rfl ?_
        refine y_getI (q := 40) rfl rfl (by decide) atC1 rfl rfl ?_
        refine y_guard (fun c7 => ?_)
        refine y_iald (n := 160) (N := 160) (X := (h 1 5).toInt) (K := (h 1 5).toInt.toNat) (q := 41) hbC rfl atC5 rfl rfl c7 rfl rfl ?_
        refine y_iadd (q := 42) rfl rfl ?_
        refine y_bipush (x := 48) (q := 44) rfl (by decide) rfl ?_
        refine y_isub (q := 45) rfl rfl ?_
        refine y_istore_n (lo' := [some (.ref 1), some (.int v1), some (.int (((v2 * 10) + (h 5 ((h 1 5).toInt.toNat))) - 48))]) (q := 46) rfl (Nat.le_of_ble_eq_true rfl) rfl rfl ?_
        refine y_aload_n (q := 47) rfl rfl rfl ?_
        refine y_dup (q := 48) rfl rfl ?_
        refine y_getI (q := 51) rfl rfl (by decide) atC1 rfl rfl ?_
        refine y_iconst (x := 1) (q := 52) rfl (by decide) rfl ?_
        refine y_iadd (q := 53) rfl rfl ?_
        refine y_putI (q := 56) rfl rfl (by decide) atC1 rfl rfl rfl rfl (fun g8 => ?_)
        refine y_goto (q := 2) rfl rfl ?_
        exact lz_X4_cutNumber_2 hd v1 k hk n (((v2 * 10) + (h 5 ((h 1 5).toInt.toNat))) - 48) g8 
    · skip
      exact hk v2  h
def f_X4_cutNumber (v1 : Int32) (h : dH) : Option (dH) := l_X4_cutNumber_2   (fun v2_9 g10 => if 0 ≤ v1.toInt ∧ v1.toInt < 161 then (if 4 < ((g10 1 5) - (g10 3 (v1.toInt.toNat))).toInt then (if 0 ≤ v1.toInt ∧ v1.toInt < 161 then (oH (dU g10 2 (v1.toInt.toNat) 301) (fun g14 => if 0 ≤ v1.toInt ∧ v1.toInt < 161 then (oH (dU g14 4 (v1.toInt.toNat) v2_9) (fun g16 => some g16)) else none)) else none) else (if 0 ≤ v1.toInt ∧ v1.toInt < 161 then (oH (dU g10 2 (v1.toInt.toNat) 302) (fun g18 => if 0 ≤ v1.toInt ∧ v1.toInt < 161 then (oH (dU g18 4 (v1.toInt.toNat) v2_9) (fun g20 => some g20)) else none)) else none)) else none) fuel0 0 h
theorem m_X4_cutNumber {d : Nat} (hd : 2 ≤ d) (v1 : Int32) (h : dH) : dX shC d 50 [.ref 1, .int v1] dV (f_X4_cutNumber v1 h) h := by
  obtain ⟨e, rfl⟩ : ∃ e, d = e + 1 := ⟨d - 1, by omega⟩
  have hd : 1 ≤ e := by omega
  refine dX_of (mj := mj50) (lo := [some (.ref 1), some (.int v1), none]) rfl (Nat.le_of_ble_eq_true rfl) rfl ?_
  unfold f_X4_cutNumber
  refine y_iconst (x := 0) (q := 1) rfl (by decide) rfl ?_
  refine y_istore_n (lo' := [some (.ref 1), some (.int v1), some (.int 0)]) (q := 2) rfl (Nat.le_of_ble_eq_true rfl) rfl rfl ?_
  refine lz_X4_cutNumber_2 hd v1  _ (fun v2_9 g10 => ?_) fuel0 0 h 
  refine y_aload_n (q := 60) rfl rfl rfl ?_
  refine y_getR (b := 2) (q := 63) rfl rfl (by decide) atC1 rfl rfl ?_
  refine y_iload_n (q := 64) rfl rfl rfl ?_
  refine y_aload_n (q := 65) rfl rfl rfl ?_
  refine y_getI (q := 68) rfl rfl (by decide) atC1 rfl rfl ?_
  refine y_aload_n (q := 69) rfl rfl rfl ?_
  refine y_getR (b := 3) (q := 72) rfl rfl (by decide) atC1 rfl rfl ?_
  refine y_iload_n (q := 73) rfl rfl rfl ?_
  refine y_guard (fun c11 => ?_)
  refine y_iald (n := 161) (N := 161) (X := v1.toInt) (K := v1.toInt.toNat) (q := 74) hbC rfl atC3 rfl rfl c11 rfl rfl ?_
  refine y_isub (q := 75) rfl rfl ?_
  refine y_iconst (x := 4) (q := 76) rfl (by decide) rfl ?_
  refine y_le (q := 85) (q' := 79) rfl rfl (by decide) rfl rfl (fun c12 => ?_) (fun c13 => ?_)
  · skip
    refine y_sipush (x := 301) (q := 82) rfl (by decide) rfl ?_
    refine y_goto (q := 88) rfl rfl ?_
    refine y_guard (fun c15 => ?_)
    refine y_iast (n := 161) (N := 161) (X := v1.toInt) (K := v1.toInt.toNat) (q := 89) rfl atC2 rfl rfl c15 rfl rfl (fun g14 => ?_)
    refine y_aload_n (q := 90) rfl rfl rfl ?_
    refine y_getR (b := 4) (q := 93) rfl rfl (by decide) atC1 rfl rfl ?_
    refine y_iload_n (q := 94) rfl rfl rfl ?_
    refine y_iload_n (q := 95) rfl rfl rfl ?_
    refine y_guard (fun c17 => ?_)
    refine y_iast (n := 161) (N := 161) (X := v1.toInt) (K := v1.toInt.toNat) (q := 96) rfl atC4 rfl rfl c17 rfl rfl (fun g16 => ?_)
    exact y_retV rfl rfl rfl
  · skip
    refine y_sipush (x := 302) (q := 88) rfl (by decide) rfl ?_
    refine y_guard (fun c19 => ?_)
    refine y_iast (n := 161) (N := 161) (X := v1.toInt) (K := v1.toInt.toNat) (q := 89) rfl atC2 rfl rfl c19 rfl rfl (fun g18 => ?_)
    refine y_aload_n (q := 90) rfl rfl rfl ?_
    refine y_getR (b := 4) (q := 93) rfl rfl (by decide) atC1 rfl rfl ?_
    refine y_iload_n (q := 94) rfl rfl rfl ?_
    refine y_iload_n (q := 95) rfl rfl rfl ?_
    refine y_guard (fun c21 => ?_)
    refine y_iast (n := 161) (N := 161) (X := v1.toInt) (K := v1.toInt.toNat) (q := 96) rfl atC4 rfl rfl c21 rfl rfl (fun g20 => ?_)
    exact y_retV rfl rfl rfl
def f_X4_isSmall (v0 : Int32) : Option (Int32) := if v0.toInt < 97 then ((some 0)) else (if 122 < v0.toInt then ((some 0)) else ((some 1)))
theorem m_X4_isSmall {d : Nat} (hd : 1 ≤ d) (v0 : Int32) (h : dH) : dX shC d 57 [.int v0] (dP h) (f_X4_isSmall v0) h := by
  obtain ⟨e, rfl⟩ : ∃ e, d = e + 1 := ⟨d - 1, by omega⟩
  have hd : 0 ≤ e := by omega
  refine dX_of (mj := mj57) (lo := [some (.int v0)]) rfl (Nat.le_of_ble_eq_true rfl) rfl ?_
  unfold f_X4_isSmall
  refine y_iload_n (q := 1) rfl rfl rfl ?_
  refine y_bipush (x := 97) (q := 3) rfl (by decide) rfl ?_
  refine y_lt (q := 16) (q' := 6) rfl rfl (by decide) rfl rfl (fun c1 => ?_) (fun c2 => ?_)
  · skip
    refine y_iconst (x := 0) (q := 17) rfl (by decide) rfl ?_
    exact y_retP rfl (by decide) rfl rfl
  · skip
    refine y_iload_n (q := 7) rfl rfl rfl ?_
    refine y_bipush (x := 122) (q := 9) rfl (by decide) rfl ?_
    refine y_gt (q := 16) (q' := 12) rfl rfl (by decide) rfl rfl (fun c3 => ?_) (fun c4 => ?_)
    · skip
      refine y_iconst (x := 0) (q := 17) rfl (by decide) rfl ?_
      exact y_retP rfl (by decide) rfl rfl
    · skip
      refine y_iconst (x := 1) (q := 13) rfl (by decide) rfl ?_
      refine y_goto (q := 17) rfl rfl ?_
      exact y_retP rfl (by decide) rfl rfl
def l_X4_reads_17 (a1 : Nat) (v2 : Int32) (h : dH) (k : Option (Int32)) : Nat → Int32 → Option (Int32)
  | 0, _ => none
  | n + 1, v3 => oP (f_J0_length_8abf5 a1) (fun r4 => if v3.toInt < r4.toInt then (if 0 ≤ (v2 + v3).toInt ∧ (v2 + v3).toInt < 160 then (oP (f_J0_charAt_5068e a1 v3) (fun r8 => if (h 5 ((v2 + v3).toInt.toNat)).toInt = r8.toInt then (l_X4_reads_17 a1 v2 h k n (v3 + 1) ) else ((some 0)))) else none) else (k  ))
theorem lz_X4_reads_17 {d : Nat} (hd : 8 ≤ d) (a1 : Nat) (ha1 : zStr a1) (v2 : Int32) (h : dH) (k : Option (Int32)) (hk : ∀ (w3 : Int32), dY shC d mj54 (dP h) (k ) 49 [some (.ref 1), some (.ref a1), some (.int v2), some (.int w3)] [] h) : ∀ (n : Nat) (v3 : Int32), dY shC d mj54 (dP h) (l_X4_reads_17 a1 v2 h k n v3) 17 [some (.ref 1), some (.ref a1), some (.int v2), some (.int v3)] [] h
  | 0, _ => dY_none
  | n + 1, v3 => by
    rw [l_X4_reads_17]
    refine y_iload_n (q := 18) rfl rfl rfl ?_
    refine y_aload_n (q := 19) rfl rfl rfl ?_
    refine y_callP (I := .invokevirtual 85) (idx := 85) (KD := 1) (J := 244) (mj := mj234) (as := [.ref a1]) (r := [.int v3]) (q := 22) rfl (fun _ _ _ _ _ _ => rfl) rfl (by decide) rfl rfl rfl rfl rfl (Nat.le_of_ble_eq_true rfl) (d_recvS ha1) rfl (m_J0_length_8abf5 (Nat.le_trans (by decide) hd) a1 ha1 h) (fun r4 => ?_)
    refine y_ge (q := 49) (q' := 25) rfl rfl rfl rfl rfl (fun c5 => ?_) (fun c6 => ?_)
    · skip
      refine y_aload_n (q := 26) rfl rfl rfl ?_
      refine y_getR (b := 5) (q := 29) rfl rfl (by decide) atC1 rfl rfl ?_
      refine y_iload_n (q := 30) rfl rfl rfl ?_
      refine y_iload_n (q := 31) rfl rfl rfl ?_
      refine y_iadd (q := 32) rfl rfl ?_
      refine y_guard (fun c7 => ?_)
      refine y_iald (n := 160) (N := 160) (X := (v2 + v3).toInt) (K := (v2 + v3).toInt.toNat) (q := 33) hbC rfl atC5 rfl rfl c7 rfl rfl ?_
      refine y_aload_n (q := 34) rfl rfl rfl ?_
      refine y_iload_n (q := 35) rfl rfl rfl ?_
      refine y_callP (I := .invokevirtual 91) (idx := 91) (KD := 1) (J := 245) (mj := mj235) (as := [.ref a1, .int v3]) (r := [.int (h 5 ((v2 + v3).toInt.toNat))]) (q := 38) rfl (fun _ _ _ _ _ _ => rfl) rfl (by decide) rfl rfl rfl rfl rfl (Nat.le_of_ble_eq_true rfl) (d_recvS ha1) rfl (m_J0_charAt_5068e (Nat.le_trans (by decide) hd) a1 ha1 v3 h) (fun r8 => ?_)
      refine y_eq (q := 43) (q' := 41) rfl rfl rfl rfl rfl (fun c9 => ?_) (fun c10 => ?_)
      · skip
        refine y_iinc (z := (v3 + 1)) (lo' := [some (.ref 1), some (.ref a1), some (.int v2), some (.int (v3 + 1))]) (q := 46) rfl rfl (Nat.le_of_ble_eq_true rfl) (by rw [oi_1]) rfl rfl ?_
        refine y_goto (q := 17) rfl rfl ?_
        exact lz_X4_reads_17 hd a1 ha1 v2 h k hk n (v3 + 1)  
      · skip
        refine y_iconst (x := 0) (q := 42) rfl (by decide) rfl ?_
        exact y_retP rfl (by decide) rfl rfl
    · skip
      exact hk  v3 
def f_X4_reads (a1 : Nat) (v2 : Int32) (h : dH) : Option (Int32) := oP (f_J0_length_8abf5 a1) (fun r1 => if ((h 1 5) - v2).toInt = r1.toInt then (l_X4_reads_17 a1 v2 h ((some 1)) fuel0 0 ) else ((some 0)))
theorem m_X4_reads {d : Nat} (hd : 9 ≤ d) (a1 : Nat) (ha1 : zStr a1) (v2 : Int32) (h : dH) : dX shC d 54 [.ref 1, .ref a1, .int v2] (dP h) (f_X4_reads a1 v2 h) h := by
  obtain ⟨e, rfl⟩ : ∃ e, d = e + 1 := ⟨d - 1, by omega⟩
  have hd : 8 ≤ e := by omega
  refine dX_of (mj := mj54) (lo := [some (.ref 1), some (.ref a1), some (.int v2), none]) rfl (Nat.le_of_ble_eq_true rfl) rfl ?_
  unfold f_X4_reads
  refine y_aload_n (q := 1) rfl rfl rfl ?_
  refine y_getI (q := 4) rfl rfl (by decide) atC1 rfl rfl ?_
  refine y_iload_n (q := 5) rfl rfl rfl ?_
  refine y_isub (q := 6) rfl rfl ?_
  refine y_aload_n (q := 7) rfl rfl rfl ?_
  refine y_callP (I := .invokevirtual 85) (idx := 85) (KD := 1) (J := 244) (mj := mj234) (as := [.ref a1]) (r := [.int ((h 1 5) - v2)]) (q := 10) rfl (fun _ _ _ _ _ _ => rfl) rfl (by decide) rfl rfl rfl rfl rfl (Nat.le_of_ble_eq_true rfl) (d_recvS ha1) rfl (m_J0_length_8abf5 (Nat.le_trans (by decide) hd) a1 ha1 h) (fun r1 => ?_)
  refine y_eq (q := 15) (q' := 13) rfl rfl rfl rfl rfl (fun c2 => ?_) (fun c3 => ?_)
  · skip
    refine y_iconst (x := 0) (q := 16) rfl (by decide) rfl ?_
    refine y_istore_n (lo' := [some (.ref 1), some (.ref a1), some (.int v2), some (.int 0)]) (q := 17) rfl (Nat.le_of_ble_eq_true rfl) rfl rfl ?_
    refine lz_X4_reads_17 hd a1 ha1 v2 h _ (fun z11 => ?_) fuel0 0  
    refine y_iconst (x := 1) (q := 50) rfl (by decide) rfl ?_
    exact y_retP rfl (by decide) rfl rfl
  · skip
    refine y_iconst (x := 0) (q := 14) rfl (by decide) rfl ?_
    exact y_retP rfl (by decide) rfl rfl
def f_X4_keyFrom (v1 : Int32) (h : dH) : Option (Int32) := oP (f_X4_reads (xB + 10 + 7) v1 h) (fun r1 => if r1.toInt = 0 then (oP (f_X4_reads (xB + 10 + 8) v1 h) (fun r4 => if r4.toInt = 0 then (oP (f_X4_reads (xB + 10 + 9) v1 h) (fun r7 => if r7.toInt = 0 then (oP (f_X4_reads (xB + 10 + 10) v1 h) (fun r10 => if r10.toInt = 0 then (oP (f_X4_reads (xB + 10 + 11) v1 h) (fun r13 => if r13.toInt = 0 then (oP (f_X4_reads (xB + 10 + 12) v1 h) (fun r16 => if r16.toInt = 0 then ((some 301)) else ((some 309)))) else ((some 308)))) else ((some 307)))) else ((some 306)))) else ((some 305)))) else ((some 304)))
theorem m_X4_keyFrom {d : Nat} (hd : 10 ≤ d) (v1 : Int32) (h : dH) : dX shC d 53 [.ref 1, .int v1] (dP h) (f_X4_keyFrom v1 h) h := by
  obtain ⟨e, rfl⟩ : ∃ e, d = e + 1 := ⟨d - 1, by omega⟩
  have hd : 9 ≤ e := by omega
  refine dX_of (mj := mj53) (lo := [some (.ref 1), some (.int v1)]) rfl (Nat.le_of_ble_eq_true rfl) rfl ?_
  unfold f_X4_keyFrom
  refine y_aload_n (q := 1) rfl rfl rfl ?_
  refine y_ldcR (a := xB + 10 + 7) (q := 3) rfl rfl rfl ?_
  refine y_iload_n (q := 4) rfl rfl rfl ?_
  refine y_callP (I := .invokevirtual 59) (idx := 59) (KD := 1) (J := 64) (mj := mj54) (as := [.ref 1, .ref (xB + 10 + 7), .int v1]) (r := []) (q := 7) rfl (fun _ _ _ _ _ _ => rfl) rfl (by decide) rfl rfl rfl rfl rfl (Nat.le_of_ble_eq_true rfl) (d_recv atC1 (by decide) (by decide)) rfl (m_X4_reads (Nat.le_trans (by decide) hd) (xB + 10 + 7) (zStr_k (by decide)) v1 h) (fun r1 => ?_)
  refine y_eq0 (q := 14) (q' := 10) rfl rfl rfl rfl (fun c2 => ?_) (fun c3 => ?_)
  · skip
    refine y_aload_n (q := 15) rfl rfl rfl ?_
    refine y_ldcR (a := xB + 10 + 8) (q := 17) rfl rfl rfl ?_
    refine y_iload_n (q := 18) rfl rfl rfl ?_
    refine y_callP (I := .invokevirtual 59) (idx := 59) (KD := 1) (J := 64) (mj := mj54) (as := [.ref 1, .ref (xB + 10 + 8), .int v1]) (r := []) (q := 21) rfl (fun _ _ _ _ _ _ => rfl) rfl (by decide) rfl rfl rfl rfl rfl (Nat.le_of_ble_eq_true rfl) (d_recv atC1 (by decide) (by decide)) rfl (m_X4_reads (Nat.le_trans (by decide) hd) (xB + 10 + 8) (zStr_k (by decide)) v1 h) (fun r4 => ?_)
    refine y_eq0 (q := 28) (q' := 24) rfl rfl rfl rfl (fun c5 => ?_) (fun c6 => ?_)
    · skip
      refine y_aload_n (q := 29) rfl rfl rfl ?_
      refine y_ldcR (a := xB + 10 + 9) (q := 31) rfl rfl rfl ?_
      refine y_iload_n (q := 32) rfl rfl rfl ?_
      refine y_callP (I := .invokevirtual 59) (idx := 59) (KD := 1) (J := 64) (mj := mj54) (as := [.ref 1, .ref (xB + 10 + 9), .int v1]) (r := []) (q := 35) rfl (fun _ _ _ _ _ _ => rfl) rfl (by decide) rfl rfl rfl rfl rfl (Nat.le_of_ble_eq_true rfl) (d_recv atC1 (by decide) (by decide)) rfl (m_X4_reads (Nat.le_trans (by decide) hd) (xB + 10 + 9) (zStr_k (by decide)) v1 h) (fun r7 => ?_)
      refine y_eq0 (q := 42) (q' := 38) rfl rfl rfl rfl (fun c8 => ?_) (fun c9 => ?_)
      · skip
        refine y_aload_n (q := 43) rfl rfl rfl ?_
        refine y_ldcR (a := xB + 10 + 10) (q := 45) rfl rfl rfl ?_
        refine y_iload_n (q := 46) rfl rfl rfl ?_
        refine y_callP (I := .invokevirtual 59) (idx := 59) (KD := 1) (J := 64) (mj := mj54) (as := [.ref 1, .ref (xB + 10 + 10), .int v1]) (r := []) (q := 49) rfl (fun _ _ _ _ _ _ => rfl) rfl (by decide) rfl rfl rfl rfl rfl (Nat.le_of_ble_eq_true rfl) (d_recv atC1 (by decide) (by decide)) rfl (m_X4_reads (Nat.le_trans (by decide) hd) (xB + 10 + 10) (zStr_k (by decide)) v1 h) (fun r10 => ?_)
        refine y_eq0 (q := 56) (q' := 52) rfl rfl rfl rfl (fun c11 => ?_) (fun c12 => ?_)
        · skip
          refine y_aload_n (q := 57) rfl rfl rfl ?_
          refine y_ldcR (a := xB + 10 + 11) (q := 59) rfl rfl rfl ?_
          refine y_iload_n (q := 60) rfl rfl rfl ?_
          refine y_callP (I := .invokevirtual 59) (idx := 59) (KD := 1) (J := 64) (mj := mj54) (as := [.ref 1, .ref (xB + 10 + 11), .int v1]) (r := []) (q := 63) rfl (fun _ _ _ _ _ _ => rfl) rfl (by decide) rfl rfl rfl rfl rfl (Nat.le_of_ble_eq_true rfl) (d_recv atC1 (by decide) (by decide)) rfl (m_X4_reads (Nat.le_trans (by decide) hd) (xB + 10 + 11) (zStr_k (by decide)) v1 h) (fun r13 => ?_)
          refine y_eq0 (q := 70) (q' := 66) rfl rfl rfl rfl (fun c14 => ?_) (fun c15 => ?_)
          · skip
            refine y_aload_n (q := 71) rfl rfl rfl ?_
            refine y_ldcR (a := xB + 10 + 12) (q := 73) rfl rfl rfl ?_
            refine y_iload_n (q := 74) rfl rfl rfl ?_
            refine y_callP (I := .invokevirtual 59) (idx := 59) (KD := 1) (J := 64) (mj := mj54) (as := [.ref 1, .ref (xB + 10 + 12), .int v1]) (r := []) (q := 77) rfl (fun _ _ _ _ _ _ => rfl) rfl (by decide) rfl rfl rfl rfl rfl (Nat.le_of_ble_eq_true rfl) (d_recv atC1 (by decide) (by decide)) rfl (m_X4_reads (Nat.le_trans (by decide) hd) (xB + 10 + 12) (zStr_k (by decide)) v1 h) (fun r16 => ?_)
            refine y_eq0 (q := 86) (q' := 80) rfl rfl rfl rfl (fun c17 => ?_) (fun c18 => ?_)
            · skip
              refine y_sipush (x := 301) (q := 89) rfl (by decide) rfl ?_
              exact y_retP rfl (by decide) rfl rfl
            · skip
              refine y_sipush (x := 309) (q := 83) rfl (by decide) rfl ?_
              refine y_goto (q := 89) rfl rfl ?_
              exact y_retP rfl (by decide) rfl rfl
          · skip
            refine y_sipush (x := 308) (q := 69) rfl (by decide) rfl ?_
            exact y_retP rfl (by decide) rfl rfl
        · skip
          refine y_sipush (x := 307) (q := 55) rfl (by decide) rfl ?_
          exact y_retP rfl (by decide) rfl rfl
      · skip
        refine y_sipush (x := 306) (q := 41) rfl (by decide) rfl ?_
        exact y_retP rfl (by decide) rfl rfl
    · skip
      refine y_sipush (x := 305) (q := 27) rfl (by decide) rfl ?_
      exact y_retP rfl (by decide) rfl rfl
  · skip
    refine y_sipush (x := 304) (q := 13) rfl (by decide) rfl ?_
    exact y_retP rfl (by decide) rfl rfl
def f_X4_nameFrom (v1 : Int32) (h : dH) : Option (Int32) := oP (f_X4_reads (xB + 10 + 1) v1 h) (fun r1 => if r1.toInt = 0 then (oP (f_X4_reads (xB + 10 + 2) v1 h) (fun r4 => if r4.toInt = 0 then (oP (f_X4_reads (xB + 10 + 3) v1 h) (fun r7 => if r7.toInt = 0 then (oP (f_X4_reads (xB + 10 + 4) v1 h) (fun r10 => if r10.toInt = 0 then (oP (f_X4_reads (xB + 10 + 5) v1 h) (fun r13 => if r13.toInt = 0 then (oP (f_X4_reads (xB + 10 + 6) v1 h) (fun r16 => if r16.toInt = 0 then ((some (-1))) else ((some 5)))) else ((some 4)))) else ((some 3)))) else ((some 2)))) else ((some 1)))) else ((some 0)))
theorem m_X4_nameFrom {d : Nat} (hd : 10 ≤ d) (v1 : Int32) (h : dH) : dX shC d 52 [.ref 1, .int v1] (dP h) (f_X4_nameFrom v1 h) h := by
  obtain ⟨e, rfl⟩ : ∃ e, d = e + 1 := ⟨d - 1, by omega⟩
  have hd : 9 ≤ e := by omega
  refine dX_of (mj := mj52) (lo := [some (.ref 1), some (.int v1)]) rfl (Nat.le_of_ble_eq_true rfl) rfl ?_
  unfold f_X4_nameFrom
  refine y_aload_n (q := 1) rfl rfl rfl ?_
  refine y_ldcR (a := xB + 10 + 1) (q := 3) rfl rfl rfl ?_
  refine y_iload_n (q := 4) rfl rfl rfl ?_
  refine y_callP (I := .invokevirtual 59) (idx := 59) (KD := 1) (J := 64) (mj := mj54) (as := [.ref 1, .ref (xB + 10 + 1), .int v1]) (r := []) (q := 7) rfl (fun _ _ _ _ _ _ => rfl) rfl (by decide) rfl rfl rfl rfl rfl (Nat.le_of_ble_eq_true rfl) (d_recv atC1 (by decide) (by decide)) rfl (m_X4_reads (Nat.le_trans (by decide) hd) (xB + 10 + 1) (zStr_k (by decide)) v1 h) (fun r1 => ?_)
  refine y_eq0 (q := 12) (q' := 10) rfl rfl rfl rfl (fun c2 => ?_) (fun c3 => ?_)
  · skip
    refine y_aload_n (q := 13) rfl rfl rfl ?_
    refine y_ldcR (a := xB + 10 + 2) (q := 15) rfl rfl rfl ?_
    refine y_iload_n (q := 16) rfl rfl rfl ?_
    refine y_callP (I := .invokevirtual 59) (idx := 59) (KD := 1) (J := 64) (mj := mj54) (as := [.ref 1, .ref (xB + 10 + 2), .int v1]) (r := []) (q := 19) rfl (fun _ _ _ _ _ _ => rfl) rfl (by decide) rfl rfl rfl rfl rfl (Nat.le_of_ble_eq_true rfl) (d_recv atC1 (by decide) (by decide)) rfl (m_X4_reads (Nat.le_trans (by decide) hd) (xB + 10 + 2) (zStr_k (by decide)) v1 h) (fun r4 => ?_)
    refine y_eq0 (q := 24) (q' := 22) rfl rfl rfl rfl (fun c5 => ?_) (fun c6 => ?_)
    · skip
      refine y_aload_n (q := 25) rfl rfl rfl ?_
      refine y_ldcR (a := xB + 10 + 3) (q := 27) rfl rfl rfl ?_
      refine y_iload_n (q := 28) rfl rfl rfl ?_
      refine y_callP (I := .invokevirtual 59) (idx := 59) (KD := 1) (J := 64) (mj := mj54) (as := [.ref 1, .ref (xB + 10 + 3), .int v1]) (r := []) (q := 31) rfl (fun _ _ _ _ _ _ => rfl) rfl (by decide) rfl rfl rfl rfl rfl (Nat.le_of_ble_eq_true rfl) (d_recv atC1 (by decide) (by decide)) rfl (m_X4_reads (Nat.le_trans (by decide) hd) (xB + 10 + 3) (zStr_k (by decide)) v1 h) (fun r7 => ?_)
      refine y_eq0 (q := 36) (q' := 34) rfl rfl rfl rfl (fun c8 => ?_) (fun c9 => ?_)
      · skip
        refine y_aload_n (q := 37) rfl rfl rfl ?_
        refine y_ldcR (a := xB + 10 + 4) (q := 39) rfl rfl rfl ?_
        refine y_iload_n (q := 40) rfl rfl rfl ?_
        refine y_callP (I := .invokevirtual 59) (idx := 59) (KD := 1) (J := 64) (mj := mj54) (as := [.ref 1, .ref (xB + 10 + 4), .int v1]) (r := []) (q := 43) rfl (fun _ _ _ _ _ _ => rfl) rfl (by decide) rfl rfl rfl rfl rfl (Nat.le_of_ble_eq_true rfl) (d_recv atC1 (by decide) (by decide)) rfl (m_X4_reads (Nat.le_trans (by decide) hd) (xB + 10 + 4) (zStr_k (by decide)) v1 h) (fun r10 => ?_)
        refine y_eq0 (q := 48) (q' := 46) rfl rfl rfl rfl (fun c11 => ?_) (fun c12 => ?_)
        · skip
          refine y_aload_n (q := 49) rfl rfl rfl ?_
          refine y_ldcR (a := xB + 10 + 5) (q := 51) rfl rfl rfl ?_
          refine y_iload_n (q := 52) rfl rfl rfl ?_
          refine y_callP (I := .invokevirtual 59) (idx := 59) (KD := 1) (J := 64) (mj := mj54) (as := [.ref 1, .ref (xB + 10 + 5), .int v1]) (r := []) (q := 55) rfl (fun _ _ _ _ _ _ => rfl) rfl (by decide) rfl rfl rfl rfl rfl (Nat.le_of_ble_eq_true rfl) (d_recv atC1 (by decide) (by decide)) rfl (m_X4_reads (Nat.le_trans (by decide) hd) (xB + 10 + 5) (zStr_k (by decide)) v1 h) (fun r13 => ?_)
          refine y_eq0 (q := 60) (q' := 58) rfl rfl rfl rfl (fun c14 => ?_) (fun c15 => ?_)
          · skip
            refine y_aload_n (q := 61) rfl rfl rfl ?_
            refine y_ldcR (a := xB + 10 + 6) (q := 63) rfl rfl rfl ?_
            refine y_iload_n (q := 64) rfl rfl rfl ?_
            refine y_callP (I := .invokevirtual 59) (idx := 59) (KD := 1) (J := 64) (mj := mj54) (as := [.ref 1, .ref (xB + 10 + 6), .int v1]) (r := []) (q := 67) rfl (fun _ _ _ _ _ _ => rfl) rfl (by decide) rfl rfl rfl rfl rfl (Nat.le_of_ble_eq_true rfl) (d_recv atC1 (by decide) (by decide)) rfl (m_X4_reads (Nat.le_trans (by decide) hd) (xB + 10 + 6) (zStr_k (by decide)) v1 h) (fun r16 => ?_)
            refine y_eq0 (q := 74) (q' := 70) rfl rfl rfl rfl (fun c17 => ?_) (fun c18 => ?_)
            · skip
              refine y_iconst (x := (-1)) (q := 75) rfl (by decide) rfl ?_
              exact y_retP rfl (by decide) rfl rfl
            · skip
              refine y_iconst (x := 5) (q := 71) rfl (by decide) rfl ?_
              refine y_goto (q := 75) rfl rfl ?_
              exact y_retP rfl (by decide) rfl rfl
          · skip
            refine y_iconst (x := 4) (q := 59) rfl (by decide) rfl ?_
            exact y_retP rfl (by decide) rfl rfl
        · skip
          refine y_iconst (x := 3) (q := 47) rfl (by decide) rfl ?_
          exact y_retP rfl (by decide) rfl rfl
      · skip
        refine y_iconst (x := 2) (q := 35) rfl (by decide) rfl ?_
        exact y_retP rfl (by decide) rfl rfl
    · skip
      refine y_iconst (x := 1) (q := 23) rfl (by decide) rfl ?_
      exact y_retP rfl (by decide) rfl rfl
  · skip
    refine y_iconst (x := 0) (q := 11) rfl (by decide) rfl ?_
    exact y_retP rfl (by decide) rfl rfl
def l_X4_cutWord_0  (k : dH → Option (dH)) : Nat → dH → Option (dH)
  | 0, _ => none
  | n + 1, h => if (h 1 5).toInt < (h 1 0).toInt then (if 0 ≤ (h 1 5).toInt ∧ (h 1 5).toInt < 160 then (oP (f_X4_isSmall (h 5 ((h 1 5).toInt.toNat))) (fun r4 => if r4.toInt = 0 then (k  h) else (oH (dU h 1 5 ((h 1 5) + 1)) (fun g7 => l_X4_cutWord_0  k n  g7)))) else none) else (k  h)
theorem lz_X4_cutWord_0 {d : Nat} (hd : 10 ≤ d) (v1 : Int32) (z2 : Option Value) (k : dH → Option (dH)) (hk : ∀ (h : dH), dY shC d mj51 dV (k h) 39 [some (.ref 1), some (.int v1), z2] [] h) : ∀ (n : Nat) (h : dH), dY shC d mj51 dV (l_X4_cutWord_0  k n h) 0 [some (.ref 1), some (.int v1), z2] [] h
  | 0, _ => dY_none
  | n + 1, h => by
    rw [l_X4_cutWord_0]
    refine y_aload_n (q := 1) rfl rfl rfl ?_
    refine y_getI (q := 4) rfl rfl (by decide) atC1 rfl rfl ?_
    refine y_aload_n (q := 5) rfl rfl rfl ?_
    refine y_getI (q := 8) rfl rfl (by decide) atC1 rfl rfl ?_
    refine y_ge (q := 39) (q' := 11) rfl rfl rfl rfl rfl (fun c1 => ?_) (fun c2 => ?_)
    · skip
      refine y_aload_n (q := 12) rfl rfl rfl ?_
      refine y_getR (b := 5) (q := 15) rfl rfl (by decide) atC1 rfl rfl ?_
      refine y_aload_n (q := 16) rfl rfl rfl ?_
      refine y_getI (q := 19) rfl rfl (by decide) atC1 rfl rfl ?_
      refine y_guard (fun c3 => ?_)
      refine y_iald (n := 160) (N := 160) (X := (h 1 5).toInt) (K := (h 1 5).toInt.toNat) (q := 20) hbC rfl atC5 rfl rfl c3 rfl rfl ?_
      refine y_callP (I := .invokestatic 42) (idx := 42) (KD := 0) (J := 67) (mj := mj57) (as := [.int (h 5 ((h 1 5).toInt.toNat))]) (r := []) (q := 23) rfl (fun _ _ _ _ _ _ => rfl) rfl (by decide) rfl rfl rfl rfl rfl (Nat.le_of_ble_eq_true rfl) rfl rfl (m_X4_isSmall (Nat.le_trans (by decide) hd) (h 5 ((h 1 5).toInt.toNat)) h) (fun r4 => ?_)
      refine y_eq0 (q := 39) (q' := 26) rfl rfl rfl rfl (fun c5 => ?_) (fun c6 => ?_)
      · skip
        exact hk   h
      · skip
        refine y_aload_n (q := 27) rfl rfl rfl ?_
        refine y_dup (q := 28) rfl rfl ?_
        refine y_getI (q := 31) rfl rfl (by decide) atC1 rfl rfl ?_
        refine y_iconst (x := 1) (q := 32) rfl (by decide) rfl ?_
        refine y_iadd (q := 33) rfl rfl ?_
        refine y_putI (q := 36) rfl rfl (by decide) atC1 rfl rfl rfl rfl (fun g7 => ?_)
        refine y_goto (q := 0) rfl rfl ?_
        exact lz_X4_cutWord_0 hd v1 z2 k hk n  g7 
    · skip
      exact hk   h
def f_X4_cutWord (v1 : Int32) (h : dH) : Option (dH) := l_X4_cutWord_0   (fun g8 => if 0 ≤ v1.toInt ∧ v1.toInt < 161 then (oP (f_X4_nameFrom (g8 3 (v1.toInt.toNat)) g8) (fun r10 => if r10.toInt = (-1) then (if 0 ≤ v1.toInt ∧ v1.toInt < 161 then (oP (f_X4_keyFrom (g8 3 (v1.toInt.toNat)) g8) (fun r14 => if 0 ≤ v1.toInt ∧ v1.toInt < 161 then (oH (dU g8 2 (v1.toInt.toNat) r14) (fun g15 => some g15)) else none)) else none) else (if 0 ≤ v1.toInt ∧ v1.toInt < 161 then (oH (dU g8 2 (v1.toInt.toNat) 303) (fun g17 => if 0 ≤ v1.toInt ∧ v1.toInt < 161 then (oH (dU g17 4 (v1.toInt.toNat) ((-1) - r10)) (fun g19 => some g19)) else none)) else none))) else none) fuel0  h
theorem m_X4_cutWord {d : Nat} (hd : 11 ≤ d) (v1 : Int32) (h : dH) : dX shC d 51 [.ref 1, .int v1] dV (f_X4_cutWord v1 h) h := by
  obtain ⟨e, rfl⟩ : ∃ e, d = e + 1 := ⟨d - 1, by omega⟩
  have hd : 10 ≤ e := by omega
  refine dX_of (mj := mj51) (lo := [some (.ref 1), some (.int v1), none]) rfl (Nat.le_of_ble_eq_true rfl) rfl ?_
  unfold f_X4_cutWord
  refine lz_X4_cutWord_0 hd v1 (none)  _ (fun g8 => ?_) fuel0  h 
  refine y_aload_n (q := 40) rfl rfl rfl ?_
  refine y_aload_n (q := 41) rfl rfl rfl ?_
  refine y_getR (b := 3) (q := 44) rfl rfl (by decide) atC1 rfl rfl ?_
  refine y_iload_n (q := 45) rfl rfl rfl ?_
  refine y_guard (fun c9 => ?_)
  refine y_iald (n := 161) (N := 161) (X := v1.toInt) (K := v1.toInt.toNat) (q := 46) hbC rfl atC3 rfl rfl c9 rfl rfl ?_
  refine y_callP (I := .invokevirtual 48) (idx := 48) (KD := 1) (J := 62) (mj := mj52) (as := [.ref 1, .int (g8 3 (v1.toInt.toNat))]) (r := []) (q := 49) rfl (fun _ _ _ _ _ _ => rfl) rfl (by decide) rfl rfl rfl rfl rfl (Nat.le_of_ble_eq_true rfl) (d_recv atC1 (by decide) (by decide)) rfl (m_X4_nameFrom (Nat.le_trans (by decide) hd) (g8 3 (v1.toInt.toNat)) g8) (fun r10 => ?_)
  refine y_istore_n (lo' := [some (.ref 1), some (.int v1), some (.int r10)]) (q := 50) rfl (Nat.le_of_ble_eq_true rfl) rfl rfl ?_
  refine y_iload_n (q := 51) rfl rfl rfl ?_
  refine y_iconst (x := (-1)) (q := 52) rfl (by decide) rfl ?_
  refine y_ne (q := 74) (q' := 55) rfl rfl (by decide) rfl rfl (fun c11 => ?_) (fun c12 => ?_)
  · skip
    refine y_aload_n (q := 56) rfl rfl rfl ?_
    refine y_getR (b := 2) (q := 59) rfl rfl (by decide) atC1 rfl rfl ?_
    refine y_iload_n (q := 60) rfl rfl rfl ?_
    refine y_aload_n (q := 61) rfl rfl rfl ?_
    refine y_aload_n (q := 62) rfl rfl rfl ?_
    refine y_getR (b := 3) (q := 65) rfl rfl (by decide) atC1 rfl rfl ?_
    refine y_iload_n (q := 66) rfl rfl rfl ?_
    refine y_guard (fun c13 => ?_)
    refine y_iald (n := 161) (N := 161) (X := v1.toInt) (K := v1.toInt.toNat) (q := 67) hbC rfl atC3 rfl rfl c13 rfl rfl ?_
    refine y_callP (I := .invokevirtual 52) (idx := 52) (KD := 1) (J := 63) (mj := mj53) (as := [.ref 1, .int (g8 3 (v1.toInt.toNat))]) (r := [.int v1, .ref 2]) (q := 70) rfl (fun _ _ _ _ _ _ => rfl) rfl (by decide) rfl rfl rfl rfl rfl (Nat.le_of_ble_eq_true rfl) (d_recv atC1 (by decide) (by decide)) rfl (m_X4_keyFrom (Nat.le_trans (by decide) hd) (g8 3 (v1.toInt.toNat)) g8) (fun r14 => ?_)
    refine y_guard (fun c16 => ?_)
    refine y_iast (n := 161) (N := 161) (X := v1.toInt) (K := v1.toInt.toNat) (q := 71) rfl atC2 rfl rfl c16 rfl rfl (fun g15 => ?_)
    refine y_goto (q := 92) rfl rfl ?_
    exact y_retV rfl rfl rfl
  · skip
    refine y_aload_n (q := 75) rfl rfl rfl ?_
    refine y_getR (b := 2) (q := 78) rfl rfl (by decide) atC1 rfl rfl ?_
    refine y_iload_n (q := 79) rfl rfl rfl ?_
    refine y_sipush (x := 303) (q := 82) rfl (by decide) rfl ?_
    refine y_guard (fun c18 => ?_)
    refine y_iast (n := 161) (N := 161) (X := v1.toInt) (K := v1.toInt.toNat) (q := 83) rfl atC2 rfl rfl c18 rfl rfl (fun g17 => ?_)
    refine y_aload_n (q := 84) rfl rfl rfl ?_
    refine y_getR (b := 4) (q := 87) rfl rfl (by decide) atC1 rfl rfl ?_
    refine y_iload_n (q := 88) rfl rfl rfl ?_
    refine y_iconst (x := (-1)) (q := 89) rfl (by decide) rfl ?_
    refine y_iload_n (q := 90) rfl rfl rfl ?_
    refine y_isub (q := 91) rfl rfl ?_
    refine y_guard (fun c20 => ?_)
    refine y_iast (n := 161) (N := 161) (X := v1.toInt) (K := v1.toInt.toNat) (q := 92) rfl atC4 rfl rfl c20 rfl rfl (fun g19 => ?_)
    exact y_retV rfl rfl rfl
def f_X4_isBlank (v0 : Int32) : Option (Int32) := if v0.toInt = 32 then ((some 1)) else (if v0.toInt = 10 then ((some 1)) else ((some 0)))
theorem m_X4_isBlank {d : Nat} (hd : 1 ≤ d) (v0 : Int32) (h : dH) : dX shC d 55 [.int v0] (dP h) (f_X4_isBlank v0) h := by
  obtain ⟨e, rfl⟩ : ∃ e, d = e + 1 := ⟨d - 1, by omega⟩
  have hd : 0 ≤ e := by omega
  refine dX_of (mj := mj55) (lo := [some (.int v0)]) rfl (Nat.le_of_ble_eq_true rfl) rfl ?_
  unfold f_X4_isBlank
  refine y_iload_n (q := 1) rfl rfl rfl ?_
  refine y_bipush (x := 32) (q := 3) rfl (by decide) rfl ?_
  refine y_eq (q := 12) (q' := 6) rfl rfl (by decide) rfl rfl (fun c1 => ?_) (fun c2 => ?_)
  · skip
    refine y_iconst (x := 1) (q := 13) rfl (by decide) rfl ?_
    refine y_goto (q := 17) rfl rfl ?_
    exact y_retP rfl (by decide) rfl rfl
  · skip
    refine y_iload_n (q := 7) rfl rfl rfl ?_
    refine y_bipush (x := 10) (q := 9) rfl (by decide) rfl ?_
    refine y_ne (q := 16) (q' := 12) rfl rfl (by decide) rfl rfl (fun c3 => ?_) (fun c4 => ?_)
    · skip
      refine y_iconst (x := 1) (q := 13) rfl (by decide) rfl ?_
      refine y_goto (q := 17) rfl rfl ?_
      exact y_retP rfl (by decide) rfl rfl
    · skip
      refine y_iconst (x := 0) (q := 17) rfl (by decide) rfl ?_
      exact y_retP rfl (by decide) rfl rfl
def l_X4_cut_14  (k : dH → Option (dH)) : Nat → dH → Option (dH)
  | 0, _ => none
  | n + 1, h => if (h 1 5).toInt < (h 1 0).toInt then (if 0 ≤ (h 1 5).toInt ∧ (h 1 5).toInt < 160 then (oP (f_X4_isBlank (h 5 ((h 1 5).toInt.toNat))) (fun r7 => if r7.toInt = 0 then (k  h) else (oH (dU h 1 5 ((h 1 5) + 1)) (fun g10 => l_X4_cut_14  k n  g10)))) else none) else (k  h)
theorem lz_X4_cut_14 {d : Nat} (hd : 11 ≤ d) (v1 : Int32) (k : dH → Option (dH)) (hk : ∀ (h : dH), dY shC d mj49 dV (k h) 53 [some (.ref 1), some (.int v1)] [] h) : ∀ (n : Nat) (h : dH), dY shC d mj49 dV (l_X4_cut_14  k n h) 14 [some (.ref 1), some (.int v1)] [] h
  | 0, _ => dY_none
  | n + 1, h => by
    rw [l_X4_cut_14]
    refine y_aload_n (q := 15) rfl rfl rfl ?_
    refine y_getI (q := 18) rfl rfl (by decide) atC1 rfl rfl ?_
    refine y_aload_n (q := 19) rfl rfl rfl ?_
    refine y_getI (q := 22) rfl rfl (by decide) atC1 rfl rfl ?_
    refine y_ge (q := 53) (q' := 25) rfl rfl rfl rfl rfl (fun c4 => ?_) (fun c5 => ?_)
    · skip
      refine y_aload_n (q := 26) rfl rfl rfl ?_
      refine y_getR (b := 5) (q := 29) rfl rfl (by decide) atC1 rfl rfl ?_
      refine y_aload_n (q := 30) rfl rfl rfl ?_
      refine y_getI (q := 33) rfl rfl (by decide) atC1 rfl rfl ?_
      refine y_guard (fun c6 => ?_)
      refine y_iald (n := 160) (N := 160) (X := (h 1 5).toInt) (K := (h 1 5).toInt.toNat) (q := 34) hbC rfl atC5 rfl rfl c6 rfl rfl ?_
      refine y_callP (I := .invokestatic 31) (idx := 31) (KD := 0) (J := 65) (mj := mj55) (as := [.int (h 5 ((h 1 5).toInt.toNat))]) (r := []) (q := 37) rfl (fun _ _ _ _ _ _ => rfl) rfl (by decide) rfl rfl rfl rfl rfl (Nat.le_of_ble_eq_true rfl) rfl rfl (m_X4_isBlank (Nat.le_trans (by decide) hd) (h 5 ((h 1 5).toInt.toNat)) h) (fun r7 => ?_)
      refine y_eq0 (q := 53) (q' := 40) rfl rfl rfl rfl (fun c8 => ?_) (fun c9 => ?_)
      · skip
        exact hk   h
      · skip
        refine y_aload_n (q := 41) rfl rfl rfl ?_
        refine y_dup (q := 42) rfl rfl ?_
        refine y_getI (q := 45) rfl rfl (by decide) atC1 rfl rfl ?_
        refine y_iconst (x := 1) (q := 46) rfl (by decide) rfl ?_
        refine y_iadd (q := 47) rfl rfl ?_
        refine y_putI (q := 50) rfl rfl (by decide) atC1 rfl rfl rfl rfl (fun g10 => ?_)
        refine y_goto (q := 14) rfl rfl ?_
        exact lz_X4_cut_14 hd v1 k hk n  g10 
    · skip
      exact hk   h
def l_X4_cut_7  (k : dH → Option (dH)) : Nat → Int32 → dH → Option (dH)
  | 0, _, _ => none
  | n + 1, v1, h => if 160 < v1.toInt then (k  h) else (l_X4_cut_14   (fun g11 => if 0 ≤ v1.toInt ∧ v1.toInt < 161 then (oH (dU g11 3 (v1.toInt.toNat) (g11 1 5)) (fun g12 => if (g12 1 5).toInt < (g12 1 0).toInt then (if 0 ≤ (g12 1 5).toInt ∧ (g12 1 5).toInt < 160 then (oP (f_X4_isDigit (g12 5 ((g12 1 5).toInt.toNat))) (fun r17 => if r17.toInt = 0 then (if 0 ≤ (g12 1 5).toInt ∧ (g12 1 5).toInt < 160 then (oP (f_X4_isSmall (g12 5 ((g12 1 5).toInt.toNat))) (fun r21 => if r21.toInt = 0 then (if 0 ≤ (g12 1 5).toInt ∧ (g12 1 5).toInt < 160 then (if 0 ≤ v1.toInt ∧ v1.toInt < 161 then (oH (dU g12 2 (v1.toInt.toNat) (g12 5 ((g12 1 5).toInt.toNat))) (fun g25 => oH (dU g25 1 5 ((g25 1 5) + 1)) (fun g27 => l_X4_cut_7  k n (v1 + 1) g27))) else none) else none) else (oV (f_X4_cutWord v1 g12) (fun g28 => l_X4_cut_7  k n (v1 + 1) g28)))) else none) else (oV (f_X4_cutNumber v1 g12) (fun g29 => l_X4_cut_7  k n (v1 + 1) g29)))) else none) else (if 0 ≤ v1.toInt ∧ v1.toInt < 161 then (oH (dU g12 2 (v1.toInt.toNat) 300) (fun g30 => some g30)) else none))) else none) fuel0  h)
theorem lz_X4_cut_7 {d : Nat} (hd : 11 ≤ d)  (k : dH → Option (dH)) (hk : ∀ (w1 : Int32) (h : dH), dY shC d mj49 dV (k h) 161 [some (.ref 1), some (.int w1)] [] h) : ∀ (n : Nat) (v1 : Int32) (h : dH), dY shC d mj49 dV (l_X4_cut_7  k n v1 h) 7 [some (.ref 1), some (.int v1)] [] h
  | 0, _, _ => dY_none
  | n + 1, v1, h => by
    rw [l_X4_cut_7]
    refine y_iload_n (q := 8) rfl rfl rfl ?_
    refine y_sipush (x := 160) (q := 11) rfl (by decide) rfl ?_
    refine y_gt (q := 161) (q' := 14) rfl rfl (by decide) rfl rfl (fun c2 => ?_) (fun c3 => ?_)
    · skip
      exact hk  v1 h
    · skip
      refine lz_X4_cut_14 hd v1  _ (fun g11 => ?_) fuel0  h 
      refine y_aload_n (q := 54) rfl rfl rfl ?_
      refine y_getR (b := 3) (q := 57) rfl rfl (by decide) atC1 rfl rfl ?_
      refine y_iload_n (q := 58) rfl rfl rfl ?_
      refine y_aload_n (q := 59) rfl rfl rfl ?_
      refine y_getI (q := 62) rfl rfl (by decide) atC1 rfl rfl ?_
      refine y_guard (fun c13 => ?_)
      refine y_iast (n := 161) (N := 161) (X := v1.toInt) (K := v1.toInt.toNat) (q := 63) rfl atC3 rfl rfl c13 rfl rfl (fun g12 => ?_)
      refine y_aload_n (q := 64) rfl rfl rfl ?_
      refine y_getI (q := 67) rfl rfl (by decide) atC1 rfl rfl ?_
      refine y_aload_n (q := 68) rfl rfl rfl ?_
      refine y_getI (q := 71) rfl rfl (by decide) atC1 rfl rfl ?_
      refine y_lt (q := 84) (q' := 74) rfl rfl rfl rfl rfl (fun c14 => ?_) (fun c15 => ?_)
      · skip
        refine y_aload_n (q := 85) rfl rfl rfl ?_
        refine y_getR (b := 5) (q := 88) rfl rfl (by decide) atC1 rfl rfl ?_
        refine y_aload_n (q := 89) rfl rfl rfl ?_
        refine y_getI (q := 92) rfl rfl (by decide) atC1 rfl rfl ?_
        refine y_guard (fun c16 => ?_)
        refine y_iald (n := 160) (N := 160) (X := (g12 1 5).toInt) (K := (g12 1 5).toInt.toNat) (q := 93) hbC rfl atC5 rfl rfl c16 rfl rfl ?_
        refine y_callP (I := .invokestatic 35) (idx := 35) (KD := 0) (J := 66) (mj := mj56) (as := [.int (g12 5 ((g12 1 5).toInt.toNat))]) (r := []) (q := 96) rfl (fun _ _ _ _ _ _ => rfl) rfl (by decide) rfl rfl rfl rfl rfl (Nat.le_of_ble_eq_true rfl) rfl rfl (m_X4_isDigit (Nat.le_trans (by decide) hd) (g12 5 ((g12 1 5).toInt.toNat)) g12) (fun r17 => ?_)
        refine y_eq0 (q := 107) (q' := 99) rfl rfl rfl rfl (fun c18 => ?_) (fun c19 => ?_)
        · skip
          refine y_aload_n (q := 108) rfl rfl rfl ?_
          refine y_getR (b := 5) (q := 111) rfl rfl (by decide) atC1 rfl rfl ?_
          refine y_aload_n (q := 112) rfl rfl rfl ?_
          refine y_getI (q := 115) rfl rfl (by decide) atC1 rfl rfl ?_
          refine y_guard (fun c20 => ?_)
          refine y_iald (n := 160) (N := 160) (X := (g12 1 5).toInt) (K := (g12 1 5).toInt.toNat) (q := 116) hbC rfl atC5 rfl rfl c20 rfl rfl ?_
          refine y_callP (I := .invokestatic 42) (idx := 42) (KD := 0) (J := 67) (mj := mj57) (as := [.int (g12 5 ((g12 1 5).toInt.toNat))]) (r := []) (q := 119) rfl (fun _ _ _ _ _ _ => rfl) rfl (by decide) rfl rfl rfl rfl rfl (Nat.le_of_ble_eq_true rfl) rfl rfl (m_X4_isSmall (Nat.le_trans (by decide) hd) (g12 5 ((g12 1 5).toInt.toNat)) g12) (fun r21 => ?_)
          refine y_eq0 (q := 130) (q' := 122) rfl rfl rfl rfl (fun c22 => ?_) (fun c23 => ?_)
          · skip
            refine y_aload_n (q := 131) rfl rfl rfl ?_
            refine y_getR (b := 2) (q := 134) rfl rfl (by decide) atC1 rfl rfl ?_
            refine y_iload_n (q := 135) rfl rfl rfl ?_
            refine y_aload_n (q := 136) rfl rfl rfl ?_
            refine y_getR (b := 5) (q := 139) rfl rfl (by decide) atC1 rfl rfl ?_
            refine y_aload_n (q := 140) rfl rfl rfl ?_
            refine y_getI (q := 143) rfl rfl (by decide) atC1 rfl rfl ?_
            refine y_guard (fun c24 => ?_)
            refine y_iald (n := 160) (N := 160) (X := (g12 1 5).toInt) (K := (g12 1 5).toInt.toNat) (q := 144) hbC rfl atC5 rfl rfl c24 rfl rfl ?_
            refine y_guard (fun c26 => ?_)
            refine y_iast (n := 161) (N := 161) (X := v1.toInt) (K := v1.toInt.toNat) (q := 145) rfl atC2 rfl rfl c26 rfl rfl (fun g25 => ?_)
            refine y_aload_n (q := 146) rfl rfl rfl ?_
            refine y_dup (q := 147) rfl rfl ?_
            refine y_getI (q := 150) rfl rfl (by decide) atC1 rfl rfl ?_
            refine y_iconst (x := 1) (q := 151) rfl (by decide) rfl ?_
            refine y_iadd (q := 152) rfl rfl ?_
            refine y_putI (q := 155) rfl rfl (by decide) atC1 rfl rfl rfl rfl (fun g27 => ?_)
            refine y_iinc (z := (v1 + 1)) (lo' := [some (.ref 1), some (.int (v1 + 1))]) (q := 158) rfl rfl (Nat.le_of_ble_eq_true rfl) (by rw [oi_1]) rfl rfl ?_
            refine y_goto (q := 7) rfl rfl ?_
            exact lz_X4_cut_7 hd  k hk n (v1 + 1) g27 
          · skip
            refine y_aload_n (q := 123) rfl rfl rfl ?_
            refine y_iload_n (q := 124) rfl rfl rfl ?_
            refine y_callV (I := .invokevirtual 45) (idx := 45) (KD := 1) (J := 61) (mj := mj51) (as := [.ref 1, .int v1]) (r := []) (q := 127) rfl (fun _ _ _ _ _ _ => rfl) rfl (by decide) rfl rfl rfl rfl rfl (Nat.le_of_ble_eq_true rfl) (d_recv atC1 (by decide) (by decide)) rfl (m_X4_cutWord (Nat.le_trans (by decide) hd) v1 g12) (fun g28 => ?_)
            refine y_goto (q := 155) rfl rfl ?_
            refine y_iinc (z := (v1 + 1)) (lo' := [some (.ref 1), some (.int (v1 + 1))]) (q := 158) rfl rfl (Nat.le_of_ble_eq_true rfl) (by rw [oi_1]) rfl rfl ?_
            refine y_goto (q := 7) rfl rfl ?_
            exact lz_X4_cut_7 hd  k hk n (v1 + 1) g28 
        · skip
          refine y_aload_n (q := 100) rfl rfl rfl ?_
          refine y_iload_n (q := 101) rfl rfl rfl ?_
          refine y_callV (I := .invokevirtual 38) (idx := 38) (KD := 1) (J := 60) (mj := mj50) (as := [.ref 1, .int v1]) (r := []) (q := 104) rfl (fun _ _ _ _ _ _ => rfl) rfl (by decide) rfl rfl rfl rfl rfl (Nat.le_of_ble_eq_true rfl) (d_recv atC1 (by decide) (by decide)) rfl (m_X4_cutNumber (Nat.le_trans (by decide) hd) v1 g12) (fun g29 => ?_)
          refine y_goto (q := 155) rfl rfl ?_
          refine y_iinc (z := (v1 + 1)) (lo' := [some (.ref 1), some (.int (v1 + 1))]) (q := 158) rfl rfl (Nat.le_of_ble_eq_true rfl) (by rw [oi_1]) rfl rfl ?_
          refine y_goto (q := 7) rfl rfl ?_
          exact lz_X4_cut_7 hd  k hk n (v1 + 1) g29 
      · skip
        refine y_aload_n (q := 75) rfl rfl rfl ?_
        refine y_getR (b := 2) (q := 78) rfl rfl (by decide) atC1 rfl rfl ?_
        refine y_iload_n (q := 79) rfl rfl rfl ?_
        refine y_sipush (x := 300) (q := 82) rfl (by decide) rfl ?_
        refine y_guard (fun c31 => ?_)
        refine y_iast (n := 161) (N := 161) (X := v1.toInt) (K := v1.toInt.toNat) (q := 83) rfl atC2 rfl rfl c31 rfl rfl (fun g30 => ?_)
        exact y_retV rfl rfl rfl
def f_X4_cut  (h : dH) : Option (dH) := oH (dU h 1 5 0) (fun g1 => l_X4_cut_7   (fun g33 => some g33) fuel0 0 g1)
theorem m_X4_cut {d : Nat} (hd : 12 ≤ d)  (h : dH) : dX shC d 49 [.ref 1] dV (f_X4_cut  h) h := by
  obtain ⟨e, rfl⟩ : ∃ e, d = e + 1 := ⟨d - 1, by omega⟩
  have hd : 11 ≤ e := by omega
  refine dX_of (mj := mj49) (lo := [some (.ref 1), none]) rfl (Nat.le_of_ble_eq_true rfl) rfl ?_
  unfold f_X4_cut
  refine y_aload_n (q := 1) rfl rfl rfl ?_
  refine y_iconst (x := 0) (q := 2) rfl (by decide) rfl ?_
  refine y_putI (q := 5) rfl rfl (by decide) atC1 rfl rfl rfl rfl (fun g1 => ?_)
  refine y_iconst (x := 0) (q := 6) rfl (by decide) rfl ?_
  refine y_istore_n (lo' := [some (.ref 1), some (.int 0)]) (q := 7) rfl (Nat.le_of_ble_eq_true rfl) rfl rfl ?_
  refine lz_X4_cut_7 hd   _ (fun z32 g33 => ?_) fuel0 0 g1 
  exact y_retV rfl rfl rfl
def f_X5_clear (a0 : Nat) (h : dH) : Option (dH) := oH (dU h a0 1 0) (fun g1 => some g1)
theorem m_X5_clear {d : Nat} (hd : 1 ≤ d) (a0 : Nat) (ha0 : zT a0) (h : dH) : dX shC d 59 [.ref a0] dV (f_X5_clear a0 h) h := by
  obtain ⟨e, rfl⟩ : ∃ e, d = e + 1 := ⟨d - 1, by omega⟩
  have hd : 0 ≤ e := by omega
  refine dX_of (mj := mj59) (lo := [some (.ref a0)]) rfl (Nat.le_of_ble_eq_true rfl) rfl ?_
  unfold f_X5_clear
  refine y_aload_n (q := 1) rfl rfl rfl ?_
  refine y_iconst (x := 0) (q := 2) rfl (by decide) rfl ?_
  refine y_putI (q := 5) rfl rfl (by decide) (shT ha0) rfl rfl rfl rfl (fun g1 => ?_)
  exact y_retV rfl rfl rfl
def f_X2_isMissing (a0 : Nat) (h : dH) : Option (Int32) := if (h a0 0).toInt = (-1) then ((some 1)) else ((some 0))
theorem m_X2_isMissing {d : Nat} (hd : 1 ≤ d) (a0 : Nat) (ha0 : zW a0) (h : dH) : dX shC d 22 [.ref a0] (dP h) (f_X2_isMissing a0 h) h := by
  obtain ⟨e, rfl⟩ : ∃ e, d = e + 1 := ⟨d - 1, by omega⟩
  have hd : 0 ≤ e := by omega
  refine dX_of (mj := mj22) (lo := [some (.ref a0)]) rfl (Nat.le_of_ble_eq_true rfl) rfl ?_
  unfold f_X2_isMissing
  refine y_aload_n (q := 1) rfl rfl rfl ?_
  refine y_getI (q := 4) rfl rfl (by decide) (shW ha0) rfl rfl ?_
  refine y_iconst (x := (-1)) (q := 5) rfl (by decide) rfl ?_
  refine y_ne (q := 12) (q' := 8) rfl rfl (by decide) rfl rfl (fun c1 => ?_) (fun c2 => ?_)
  · skip
    refine y_iconst (x := 1) (q := 9) rfl (by decide) rfl ?_
    refine y_goto (q := 13) rfl rfl ?_
    exact y_retP rfl (by decide) rfl rfl
  · skip
    refine y_iconst (x := 0) (q := 13) rfl (by decide) rfl ?_
    exact y_retP rfl (by decide) rfl rfl
def l_X2_lay_12 (a0 : Nat) (k : dH → Option (dH)) : Nat → Int32 → dH → Option (dH)
  | 0, _, _ => none
  | n + 1, v3, h => if v3.toInt < 40 then (if 0 ≤ v3.toInt ∧ v3.toInt < 40 then (oH (dU h (a0 + 1) (v3.toInt.toNat) 0) (fun g5 => l_X2_lay_12 a0 k n (v3 + 1) g5)) else none) else (k  h)
theorem lz_X2_lay_12 {d : Nat} (hd : 0 ≤ d) (a0 : Nat) (ha0 : zW a0) (v1 : Int32) (v2 : Int32) (k : dH → Option (dH)) (hk : ∀ (w3 : Int32) (h : dH), dY shC d mj23 dV (k h) 31 [some (.ref a0), some (.int v1), some (.int v2), some (.int w3)] [] h) : ∀ (n : Nat) (v3 : Int32) (h : dH), dY shC d mj23 dV (l_X2_lay_12 a0 k n v3 h) 12 [some (.ref a0), some (.int v1), some (.int v2), some (.int v3)] [] h
  | 0, _, _ => dY_none
  | n + 1, v3, h => by
    rw [l_X2_lay_12]
    refine y_iload_n (q := 13) rfl rfl rfl ?_
    refine y_bipush (x := 40) (q := 15) rfl (by decide) rfl ?_
    refine y_ge (q := 31) (q' := 18) rfl rfl (by decide) rfl rfl (fun c3 => ?_) (fun c4 => ?_)
    · skip
      refine y_aload_n (q := 19) rfl rfl rfl ?_
      refine y_getR (b := (a0 + 1)) (q := 22) rfl rfl (by decide) (shW ha0) rfl rfl ?_
      refine y_iload_n (q := 23) rfl rfl rfl ?_
      refine y_iconst (x := 0) (q := 24) rfl (by decide) rfl ?_
      refine y_guard (fun c6 => ?_)
      refine y_iast (n := 40) (N := 40) (X := v3.toInt) (K := v3.toInt.toNat) (q := 25) rfl (shW1 ha0) rfl rfl c6 rfl rfl (fun g5 => ?_)
      refine y_iinc (z := (v3 + 1)) (lo' := [some (.ref a0), some (.int v1), some (.int v2), some (.int (v3 + 1))]) (q := 28) rfl rfl (Nat.le_of_ble_eq_true rfl) (by rw [oi_1]) rfl rfl ?_
      refine y_goto (q := 12) rfl rfl ?_
      exact lz_X2_lay_12 hd a0 ha0 v1 v2 k hk n (v3 + 1) g5 
    · skip
      exact hk  v3 h
def f_X2_lay (a0 : Nat) (v1 : Int32) (v2 : Int32) (h : dH) : Option (dH) := oH (dU h a0 0 v1) (fun g1 => oH (dU g1 a0 1 v2) (fun g2 => l_X2_lay_12 a0  (fun g8 => some g8) fuel0 0 g2))
theorem m_X2_lay {d : Nat} (hd : 1 ≤ d) (a0 : Nat) (ha0 : zW a0) (v1 : Int32) (v2 : Int32) (h : dH) : dX shC d 23 [.ref a0, .int v1, .int v2] dV (f_X2_lay a0 v1 v2 h) h := by
  obtain ⟨e, rfl⟩ : ∃ e, d = e + 1 := ⟨d - 1, by omega⟩
  have hd : 0 ≤ e := by omega
  refine dX_of (mj := mj23) (lo := [some (.ref a0), some (.int v1), some (.int v2), none]) rfl (Nat.le_of_ble_eq_true rfl) rfl ?_
  unfold f_X2_lay
  refine y_aload_n (q := 1) rfl rfl rfl ?_
  refine y_iload_n (q := 2) rfl rfl rfl ?_
  refine y_putI (q := 5) rfl rfl (by decide) (shW ha0) rfl rfl rfl rfl (fun g1 => ?_)
  refine y_aload_n (q := 6) rfl rfl rfl ?_
  refine y_iload_n (q := 7) rfl rfl rfl ?_
  refine y_putI (q := 10) rfl rfl (by decide) (shW ha0) rfl rfl rfl rfl (fun g2 => ?_)
  refine y_iconst (x := 0) (q := 11) rfl (by decide) rfl ?_
  refine y_istore_n (lo' := [some (.ref a0), some (.int v1), some (.int v2), some (.int 0)]) (q := 12) rfl (Nat.le_of_ble_eq_true rfl) rfl rfl ?_
  refine lz_X2_lay_12 hd a0 ha0 v1 v2  _ (fun z7 g8 => ?_) fuel0 0 g2 
  exact y_retV rfl rfl rfl
def f_X2_holds (a0 : Nat) (v1 : Int32) (v2 : Int32) (h : dH) : Option (Int32) := if v2.toInt < 0 then ((some 0)) else (if v1.toInt < 0 then ((some 0)) else (if ((h a0 1) - v2).toInt < v1.toInt then ((some 0)) else ((some 1))))
theorem m_X2_holds {d : Nat} (hd : 1 ≤ d) (a0 : Nat) (ha0 : zW a0) (v1 : Int32) (v2 : Int32) (h : dH) : dX shC d 24 [.ref a0, .int v1, .int v2] (dP h) (f_X2_holds a0 v1 v2 h) h := by
  obtain ⟨e, rfl⟩ : ∃ e, d = e + 1 := ⟨d - 1, by omega⟩
  have hd : 0 ≤ e := by omega
  refine dX_of (mj := mj24) (lo := [some (.ref a0), some (.int v1), some (.int v2)]) rfl (Nat.le_of_ble_eq_true rfl) rfl ?_
  unfold f_X2_holds
  refine y_iload_n (q := 1) rfl rfl rfl ?_
  refine y_lt0 (q := 22) (q' := 4) rfl rfl rfl rfl (fun c1 => ?_) (fun c2 => ?_)
  · skip
    refine y_iconst (x := 0) (q := 23) rfl (by decide) rfl ?_
    exact y_retP rfl (by decide) rfl rfl
  · skip
    refine y_iload_n (q := 5) rfl rfl rfl ?_
    refine y_lt0 (q := 22) (q' := 8) rfl rfl rfl rfl (fun c3 => ?_) (fun c4 => ?_)
    · skip
      refine y_iconst (x := 0) (q := 23) rfl (by decide) rfl ?_
      exact y_retP rfl (by decide) rfl rfl
    · skip
      refine y_iload_n (q := 9) rfl rfl rfl ?_
      refine y_aload_n (q := 10) rfl rfl rfl ?_
      refine y_getI (q := 13) rfl rfl (by decide) (shW ha0) rfl rfl ?_
      refine y_iload_n (q := 14) rfl rfl rfl ?_
      refine y_isub (q := 15) rfl rfl ?_
      refine y_gt (q := 22) (q' := 18) rfl rfl rfl rfl rfl (fun c5 => ?_) (fun c6 => ?_)
      · skip
        refine y_iconst (x := 0) (q := 23) rfl (by decide) rfl ?_
        exact y_retP rfl (by decide) rfl rfl
      · skip
        refine y_iconst (x := 1) (q := 19) rfl (by decide) rfl ?_
        refine y_goto (q := 23) rfl rfl ?_
        exact y_retP rfl (by decide) rfl rfl
def f_X2_put (a0 : Nat) (v1 : Int32) (v2 : Int32) (h : dH) : Option (dH) := if (h a0 0).toInt = 0 then (if 0 ≤ v1.toInt ∧ v1.toInt < 40 then (oH (dU h (a0 + 1) (v1.toInt.toNat) v2.toInt8.toInt32) (fun g3 => some g3)) else none) else (if (h a0 0).toInt = 1 then (if 0 ≤ v1.toInt ∧ v1.toInt < 40 then (oH (dU h (a0 + 1) (v1.toInt.toNat) v2.toInt16.toInt32) (fun g7 => some g7)) else none) else (if 0 ≤ v1.toInt ∧ v1.toInt < 40 then (oH (dU h (a0 + 1) (v1.toInt.toNat) v2) (fun g9 => some g9)) else none))
theorem m_X2_put {d : Nat} (hd : 1 ≤ d) (a0 : Nat) (ha0 : zW a0) (v1 : Int32) (v2 : Int32) (h : dH) : dX shC d 25 [.ref a0, .int v1, .int v2] dV (f_X2_put a0 v1 v2 h) h := by
  obtain ⟨e, rfl⟩ : ∃ e, d = e + 1 := ⟨d - 1, by omega⟩
  have hd : 0 ≤ e := by omega
  refine dX_of (mj := mj25) (lo := [some (.ref a0), some (.int v1), some (.int v2)]) rfl (Nat.le_of_ble_eq_true rfl) rfl ?_
  unfold f_X2_put
  refine y_aload_n (q := 1) rfl rfl rfl ?_
  refine y_getI (q := 4) rfl rfl (by decide) (shW ha0) rfl rfl ?_
  refine dY_ite (fun c1 => ?_) (fun c2 => ?_)
  · skip
    refine y_look (off := 28) (q := 32) rfl (by decide) (by rw [c1]; rfl) rfl ?_
    refine y_aload_n (q := 33) rfl rfl rfl ?_
    refine y_getR (b := (a0 + 1)) (q := 36) rfl rfl (by decide) (shW ha0) rfl rfl ?_
    refine y_iload_n (q := 37) rfl rfl rfl ?_
    refine y_iload_n (q := 38) rfl rfl rfl ?_
    refine y_i2b (q := 39) rfl rfl ?_
    refine y_guard (fun c4 => ?_)
    refine y_iast (n := 40) (N := 40) (X := v1.toInt) (K := v1.toInt.toNat) (q := 40) rfl (shW1 ha0) rfl rfl c4 rfl rfl (fun g3 => ?_)
    refine y_goto (q := 61) rfl rfl ?_
    exact y_retV rfl rfl rfl
  refine dY_ite (fun c5 => ?_) (fun c6 => ?_)
  · skip
    refine y_look (off := 39) (q := 43) rfl (by decide) (by rw [c5]; rfl) rfl ?_
    refine y_aload_n (q := 44) rfl rfl rfl ?_
    refine y_getR (b := (a0 + 1)) (q := 47) rfl rfl (by decide) (shW ha0) rfl rfl ?_
    refine y_iload_n (q := 48) rfl rfl rfl ?_
    refine y_iload_n (q := 49) rfl rfl rfl ?_
    refine y_i2s (q := 50) rfl rfl ?_
    refine y_guard (fun c8 => ?_)
    refine y_iast (n := 40) (N := 40) (X := v1.toInt) (K := v1.toInt.toNat) (q := 51) rfl (shW1 ha0) rfl rfl c8 rfl rfl (fun g7 => ?_)
    refine y_goto (q := 61) rfl rfl ?_
    exact y_retV rfl rfl rfl
  refine y_look (off := 50) (q := 54) rfl (by decide) (dlook_none (by simp [c2, c6])) rfl ?_
  refine y_aload_n (q := 55) rfl rfl rfl ?_
  refine y_getR (b := (a0 + 1)) (q := 58) rfl rfl (by decide) (shW ha0) rfl rfl ?_
  refine y_iload_n (q := 59) rfl rfl rfl ?_
  refine y_iload_n (q := 60) rfl rfl rfl ?_
  refine y_guard (fun c10 => ?_)
  refine y_iast (n := 40) (N := 40) (X := v1.toInt) (K := v1.toInt.toNat) (q := 61) rfl (shW1 ha0) rfl rfl c10 rfl rfl (fun g9 => ?_)
  exact y_retV rfl rfl rfl
def l_X2_unlikeItems_4 (a0 : Nat) (a1 : Nat) (h : dH) (k : Int32 → Option (Int32)) : Nat → Int32 → Int32 → Option (Int32)
  | 0, _, _ => none
  | n + 1, v2, v3 => if v3.toInt < (h a0 1).toInt then (if v3.toInt < 8 then (if 0 ≤ v3.toInt ∧ v3.toInt < 40 then (if 0 ≤ v3.toInt ∧ v3.toInt < 8 then (if (h (a0 + 1) (v3.toInt.toNat)).toInt = (h a1 (v3.toInt.toNat)).toInt then (l_X2_unlikeItems_4 a0 a1 h k n v2 (v3 + 1) ) else (l_X2_unlikeItems_4 a0 a1 h k n (v2 ||| (dshl 1 v3)) (v3 + 1) )) else none) else none) else (k v2 )) else (k v2 )
theorem lz_X2_unlikeItems_4 {d : Nat} (hd : 0 ≤ d) (a0 : Nat) (ha0 : zW a0) (a1 : Nat) (ha1 : zA shC a1 8) (h : dH) (k : Int32 → Option (Int32)) (hk : ∀ (v2 : Int32) (w3 : Int32), dY shC d mj26 (dP h) (k v2) 42 [some (.ref a0), some (.ref a1), some (.int v2), some (.int w3)] [] h) : ∀ (n : Nat) (v2 : Int32) (v3 : Int32), dY shC d mj26 (dP h) (l_X2_unlikeItems_4 a0 a1 h k n v2 v3) 4 [some (.ref a0), some (.ref a1), some (.int v2), some (.int v3)] [] h
  | 0, _, _ => dY_none
  | n + 1, v2, v3 => by
    rw [l_X2_unlikeItems_4]
    refine y_iload_n (q := 5) rfl rfl rfl ?_
    refine y_aload_n (q := 6) rfl rfl rfl ?_
    refine y_getI (q := 9) rfl rfl (by decide) (shW ha0) rfl rfl ?_
    refine y_ge (q := 42) (q' := 12) rfl rfl rfl rfl rfl (fun c1 => ?_) (fun c2 => ?_)
    · skip
      refine y_iload_n (q := 13) rfl rfl rfl ?_
      refine y_aload_n (q := 14) rfl rfl rfl ?_
      refine y_alen (x := 8) (q := 15) hbC rfl ha1 ⟨by decide, by decide⟩ (by decide) rfl ?_
      refine y_ge (q := 42) (q' := 18) rfl rfl (by decide) rfl rfl (fun c3 => ?_) (fun c4 => ?_)
      · skip
        refine y_aload_n (q := 19) rfl rfl rfl ?_
        refine y_getR (b := (a0 + 1)) (q := 22) rfl rfl (by decide) (shW ha0) rfl rfl ?_
        refine y_iload_n (q := 23) rfl rfl rfl ?_
        refine y_guard (fun c5 => ?_)
        refine y_iald (n := 40) (N := 40) (X := v3.toInt) (K := v3.toInt.toNat) (q := 24) hbC rfl (shW1 ha0) rfl rfl c5 rfl rfl ?_
        refine y_aload_n (q := 25) rfl rfl rfl ?_
        refine y_iload_n (q := 26) rfl rfl rfl ?_
        refine y_guard (fun c6 => ?_)
        refine y_iald (n := 8) (N := 8) (X := v3.toInt) (K := v3.toInt.toNat) (q := 27) hbC rfl ha1 rfl rfl c6 rfl rfl ?_
        refine y_eq (q := 36) (q' := 30) rfl rfl rfl rfl rfl (fun c7 => ?_) (fun c8 => ?_)
        · skip
          refine y_iinc (z := (v3 + 1)) (lo' := [some (.ref a0), some (.ref a1), some (.int v2), some (.int (v3 + 1))]) (q := 39) rfl rfl (Nat.le_of_ble_eq_true rfl) (by rw [oi_1]) rfl rfl ?_
          refine y_goto (q := 4) rfl rfl ?_
          exact lz_X2_unlikeItems_4 hd a0 ha0 a1 ha1 h k hk n v2 (v3 + 1)  
        · skip
          refine y_iload_n (q := 31) rfl rfl rfl ?_
          refine y_iconst (x := 1) (q := 32) rfl (by decide) rfl ?_
          refine y_iload_n (q := 33) rfl rfl rfl ?_
          refine y_ishl (q := 34) rfl rfl ?_
          refine y_ior (q := 35) rfl rfl ?_
          refine y_istore_n (lo' := [some (.ref a0), some (.ref a1), some (.int (v2 ||| (dshl 1 v3))), some (.int v3)]) (q := 36) rfl (Nat.le_of_ble_eq_true rfl) rfl rfl ?_
          refine y_iinc (z := (v3 + 1)) (lo' := [some (.ref a0), some (.ref a1), some (.int (v2 ||| (dshl 1 v3))), some (.int (v3 + 1))]) (q := 39) rfl rfl (Nat.le_of_ble_eq_true rfl) (by rw [oi_1]) rfl rfl ?_
          refine y_goto (q := 4) rfl rfl ?_
          exact lz_X2_unlikeItems_4 hd a0 ha0 a1 ha1 h k hk n (v2 ||| (dshl 1 v3)) (v3 + 1)  
      · skip
        exact hk v2 v3 
    · skip
      exact hk v2 v3 
def f_X2_unlikeItems (a0 : Nat) (a1 : Nat) (h : dH) : Option (Int32) := l_X2_unlikeItems_4 a0 a1 h (fun v2_9 => (some v2_9)) fuel0 0 0 
theorem m_X2_unlikeItems {d : Nat} (hd : 1 ≤ d) (a0 : Nat) (ha0 : zW a0) (a1 : Nat) (ha1 : zA shC a1 8) (h : dH) : dX shC d 26 [.ref a0, .ref a1] (dP h) (f_X2_unlikeItems a0 a1 h) h := by
  obtain ⟨e, rfl⟩ : ∃ e, d = e + 1 := ⟨d - 1, by omega⟩
  have hd : 0 ≤ e := by omega
  refine dX_of (mj := mj26) (lo := [some (.ref a0), some (.ref a1), none, none]) rfl (Nat.le_of_ble_eq_true rfl) rfl ?_
  unfold f_X2_unlikeItems
  refine y_iconst (x := 0) (q := 1) rfl (by decide) rfl ?_
  refine y_istore_n (lo' := [some (.ref a0), some (.ref a1), some (.int 0), none]) (q := 2) rfl (Nat.le_of_ble_eq_true rfl) rfl rfl ?_
  refine y_iconst (x := 0) (q := 3) rfl (by decide) rfl ?_
  refine y_istore_n (lo' := [some (.ref a0), some (.ref a1), some (.int 0), some (.int 0)]) (q := 4) rfl (Nat.le_of_ble_eq_true rfl) rfl rfl ?_
  refine lz_X2_unlikeItems_4 hd a0 ha0 a1 ha1 h _ (fun v2_9 z10 => ?_) fuel0 0 0  
  refine y_iload_n (q := 43) rfl rfl rfl ?_
  exact y_retP rfl (by decide) rfl rfl
def l_X3_become_79 (a0 : Nat) (a1 : Nat) (k : dH → Option (dH)) : Nat → Int32 → dH → Option (dH)
  | 0, _, _ => none
  | n + 1, v2, h => if v2.toInt < 8 then (if 0 ≤ v2.toInt ∧ v2.toInt < 8 then (if 0 ≤ v2.toInt ∧ v2.toInt < 8 then (oH (dcopy h (a1 + 5 + v2.toInt.toNat) 0 (a0 + 5 + v2.toInt.toNat) 0 8) (fun g12 => l_X3_become_79 a0 a1 k n (v2 + 1) g12)) else none) else none) else (k  h)
theorem lz_X3_become_79 {d : Nat} (hd : 0 ≤ d) (a0 : Nat) (ha0 : zS a0) (a1 : Nat) (ha1 : zS a1) (k : dH → Option (dH)) (hk : ∀ (w2 : Int32) (h : dH), dY shC d mj28 dV (k h) 110 [some (.ref a0), some (.ref a1), some (.int w2)] [] h) : ∀ (n : Nat) (v2 : Int32) (h : dH), dY shC d mj28 dV (l_X3_become_79 a0 a1 k n v2 h) 79 [some (.ref a0), some (.ref a1), some (.int v2)] [] h
  | 0, _, _ => dY_none
  | n + 1, v2, h => by
    rw [l_X3_become_79]
    refine y_iload_n (q := 80) rfl rfl rfl ?_
    refine y_bipush (x := 8) (q := 82) rfl (by decide) rfl ?_
    refine y_ge (q := 110) (q' := 85) rfl rfl (by decide) rfl rfl (fun c8 => ?_) (fun c9 => ?_)
    · skip
      refine y_aload_n (q := 86) rfl rfl rfl ?_
      refine y_getR (b := (a1 + 4)) (q := 89) rfl rfl (by decide) (shS ha1) rfl rfl ?_
      refine y_iload_n (q := 90) rfl rfl rfl ?_
      refine y_guard (fun c10 => ?_)
      refine y_aald (b := (a1 + 5 + v2.toInt.toNat)) (K := v2.toInt.toNat) (X := v2.toInt) (q := 91) hbC rfl (shS4 ha1) (by decide) rfl c10.1 rfl (shS4k _ (by omega : v2.toInt.toNat < 8)) rfl ?_
      refine y_iconst (x := 0) (q := 92) rfl (by decide) rfl ?_
      refine y_aload_n (q := 93) rfl rfl rfl ?_
      refine y_getR (b := (a0 + 4)) (q := 96) rfl rfl (by decide) (shS ha0) rfl rfl ?_
      refine y_iload_n (q := 97) rfl rfl rfl ?_
      refine y_guard (fun c11 => ?_)
      refine y_aald (b := (a0 + 5 + v2.toInt.toNat)) (K := v2.toInt.toNat) (X := v2.toInt) (q := 98) hbC rfl (shS4 ha0) (by decide) rfl c11.1 rfl (shS4k _ (by omega : v2.toInt.toNat < 8)) rfl ?_
      refine y_iconst (x := 0) (q := 99) rfl (by decide) rfl ?_
      refine y_bipush (x := 8) (q := 101) rfl (by decide) rfl ?_
      refine y_cpy (m := 8) (n := 8) (NN := 8) (DP := 0) (SP := 0) (q := 104) rfl rfl (Nat.le_of_ble_eq_true rfl) (shSr ha1 (by omega : v2.toInt.toNat < 8)) (shSr ha0 (by omega : v2.toInt.toNat < 8)) ⟨by decide, by decide, by decide⟩ (by decide) (by decide) (by decide) (by decide) (by decide) rfl (fun g12 => ?_)
      refine y_iinc (z := (v2 + 1)) (lo' := [some (.ref a0), some (.ref a1), some (.int (v2 + 1))]) (q := 107) rfl rfl (Nat.le_of_ble_eq_true rfl) (by rw [oi_1]) rfl rfl ?_
      refine y_goto (q := 79) rfl rfl ?_
      exact lz_X3_become_79 hd a0 ha0 a1 ha1 k hk n (v2 + 1) g12 
    · skip
      exact hk  v2 h
def f_X3_become (a0 : Nat) (a1 : Nat) (h : dH) : Option (dH) := oH (dU h a0 0 (h a1 0)) (fun g1 => oH (dU g1 a0 1 (g1 a1 1)) (fun g2 => oH (dU g2 a0 2 (g2 a1 2)) (fun g3 => oH (dU g3 a0 3 (dti (dtx (g3 a1 3)))) (fun g4 => oH (dcopy g4 (a1 + 1) 0 (a0 + 1) 0 8) (fun g5 => oH (dcopy g5 (a1 + 2) 0 (a0 + 2) 0 8) (fun g6 => oH (dcopy g6 (a1 + 3) 0 (a0 + 3) 0 8) (fun g7 => l_X3_become_79 a0 a1  (fun g14 => some g14) fuel0 0 g7)))))))
theorem m_X3_become {d : Nat} (hd : 1 ≤ d) (a0 : Nat) (ha0 : zS a0) (a1 : Nat) (ha1 : zS a1) (h : dH) : dX shC d 28 [.ref a0, .ref a1] dV (f_X3_become a0 a1 h) h := by
  obtain ⟨e, rfl⟩ : ∃ e, d = e + 1 := ⟨d - 1, by omega⟩
  have hd : 0 ≤ e := by omega
  refine dX_of (mj := mj28) (lo := [some (.ref a0), some (.ref a1), none]) rfl (Nat.le_of_ble_eq_true rfl) rfl ?_
  unfold f_X3_become
  refine y_aload_n (q := 1) rfl rfl rfl ?_
  refine y_aload_n (q := 2) rfl rfl rfl ?_
  refine y_getI (q := 5) rfl rfl (by decide) (shS ha1) rfl rfl ?_
  refine y_putI (q := 8) rfl rfl (by decide) (shS ha0) rfl rfl rfl rfl (fun g1 => ?_)
  refine y_aload_n (q := 9) rfl rfl rfl ?_
  refine y_aload_n (q := 10) rfl rfl rfl ?_
  refine y_getI (q := 13) rfl rfl (by decide) (shS ha1) rfl rfl ?_
  refine y_putI (q := 16) rfl rfl (by decide) (shS ha0) rfl rfl rfl rfl (fun g2 => ?_)
  refine y_aload_n (q := 17) rfl rfl rfl ?_
  refine y_aload_n (q := 18) rfl rfl rfl ?_
  refine y_getI (q := 21) rfl rfl (by decide) (shS ha1) rfl rfl ?_
  refine y_putI (q := 24) rfl rfl (by decide) (shS ha0) rfl rfl rfl rfl (fun g3 => ?_)
  refine y_aload_n (q := 25) rfl rfl rfl ?_
  refine y_aload_n (q := 26) rfl rfl rfl ?_
  refine y_getT (q := 29) rfl rfl (by decide) (shS ha1) rfl rfl ?_
  refine y_putT (q := 32) rfl rfl (by decide) (shS ha0) rfl (dtx_dti (zT_dtx _)) rfl rfl rfl (fun g4 => ?_)
  refine y_aload_n (q := 33) rfl rfl rfl ?_
  refine y_getR (b := (a1 + 1)) (q := 36) rfl rfl (by decide) (shS ha1) rfl rfl ?_
  refine y_iconst (x := 0) (q := 37) rfl (by decide) rfl ?_
  refine y_aload_n (q := 38) rfl rfl rfl ?_
  refine y_getR (b := (a0 + 1)) (q := 41) rfl rfl (by decide) (shS ha0) rfl rfl ?_
  refine y_iconst (x := 0) (q := 42) rfl (by decide) rfl ?_
  refine y_bipush (x := 8) (q := 44) rfl (by decide) rfl ?_
  refine y_cpy (m := 8) (n := 8) (NN := 8) (DP := 0) (SP := 0) (q := 47) rfl rfl (Nat.le_of_ble_eq_true rfl) (shS1 ha1) (shS1 ha0) ⟨by decide, by decide, by decide⟩ (by decide) (by decide) (by decide) (by decide) (by decide) rfl (fun g5 => ?_)
  refine y_aload_n (q := 48) rfl rfl rfl ?_
  refine y_getR (b := (a1 + 2)) (q := 51) rfl rfl (by decide) (shS ha1) rfl rfl ?_
  refine y_iconst (x := 0) (q := 52) rfl (by decide) rfl ?_
  refine y_aload_n (q := 53) rfl rfl rfl ?_
  refine y_getR (b := (a0 + 2)) (q := 56) rfl rfl (by decide) (shS ha0) rfl rfl ?_
  refine y_iconst (x := 0) (q := 57) rfl (by decide) rfl ?_
  refine y_bipush (x := 8) (q := 59) rfl (by decide) rfl ?_
  refine y_cpy (m := 8) (n := 8) (NN := 8) (DP := 0) (SP := 0) (q := 62) rfl rfl (Nat.le_of_ble_eq_true rfl) (shS2 ha1) (shS2 ha0) ⟨by decide, by decide, by decide⟩ (by decide) (by decide) (by decide) (by decide) (by decide) rfl (fun g6 => ?_)
  refine y_aload_n (q := 63) rfl rfl rfl ?_
  refine y_getR (b := (a1 + 3)) (q := 66) rfl rfl (by decide) (shS ha1) rfl rfl ?_
  refine y_iconst (x := 0) (q := 67) rfl (by decide) rfl ?_
  refine y_aload_n (q := 68) rfl rfl rfl ?_
  refine y_getR (b := (a0 + 3)) (q := 71) rfl rfl (by decide) (shS ha0) rfl rfl ?_
  refine y_iconst (x := 0) (q := 72) rfl (by decide) rfl ?_
  refine y_bipush (x := 8) (q := 74) rfl (by decide) rfl ?_
  refine y_cpy (m := 8) (n := 8) (NN := 8) (DP := 0) (SP := 0) (q := 77) rfl rfl (Nat.le_of_ble_eq_true rfl) (shS3 ha1) (shS3 ha0) ⟨by decide, by decide, by decide⟩ (by decide) (by decide) (by decide) (by decide) (by decide) rfl (fun g7 => ?_)
  refine y_iconst (x := 0) (q := 78) rfl (by decide) rfl ?_
  refine y_istore_n (lo' := [some (.ref a0), some (.ref a1), some (.int 0)]) (q := 79) rfl (Nat.le_of_ble_eq_true rfl) rfl rfl ?_
  refine lz_X3_become_79 hd a0 ha0 a1 ha1  _ (fun z13 g14 => ?_) fuel0 0 g7 
  exact y_retV rfl rfl rfl
end
end

section
/-! X3_add, X3_tie, X3_acquaintances, X3_friends, X3_allStrength, X3_seatsAt, X3_seated, X3_look, X5_joined, X5_turned, X5_value, X3_meets, X3_forgets, X3_sounds, X3_holdFeast, X3_endYear, X3_pass, X3_dinAt, X3_quietTable, X4_put, X4_empty (by program) -/
noncomputable section
def f_X3_add (a0 : Nat) (v1 : Int32) (v2 : Int32) (h : dH) : Option (dH) := if (h a0 2).toInt < 8 then (if 0 ≤ (h a0 2).toInt ∧ (h a0 2).toInt < 8 then (oH (dU h (a0 + 1) ((h a0 2).toInt.toNat) v1) (fun g3 => if 0 ≤ (g3 a0 2).toInt ∧ (g3 a0 2).toInt < 8 then (oH (dU g3 (a0 + 2) ((g3 a0 2).toInt.toNat) v2) (fun g5 => if 0 ≤ (g5 a0 2).toInt ∧ (g5 a0 2).toInt < 8 then (oH (dU g5 (a0 + 3) ((g5 a0 2).toInt.toNat) (-1)) (fun g7 => oH (dU g7 a0 2 ((g7 a0 2) + 1)) (fun g9 => some g9))) else none)) else none)) else none) else (some h)
theorem m_X3_add {d : Nat} (hd : 1 ≤ d) (a0 : Nat) (ha0 : zS a0) (v1 : Int32) (v2 : Int32) (h : dH) : dX shC d 29 [.ref a0, .int v1, .int v2] dV (f_X3_add a0 v1 v2 h) h := by
  obtain ⟨e, rfl⟩ : ∃ e, d = e + 1 := ⟨d - 1, by omega⟩
  have hd : 0 ≤ e := by omega
  refine dX_of (mj := mj29) (lo := [some (.ref a0), some (.int v1), some (.int v2)]) rfl (Nat.le_of_ble_eq_true rfl) rfl ?_
  unfold f_X3_add
  refine y_aload_n (q := 1) rfl rfl rfl ?_
  refine y_getI (q := 4) rfl rfl (by decide) (shS ha0) rfl rfl ?_
  refine y_bipush (x := 8) (q := 6) rfl (by decide) rfl ?_
  refine y_lt (q := 10) (q' := 9) rfl rfl (by decide) rfl rfl (fun c1 => ?_) (fun c2 => ?_)
  · skip
    refine y_aload_n (q := 11) rfl rfl rfl ?_
    refine y_getR (b := (a0 + 1)) (q := 14) rfl rfl (by decide) (shS ha0) rfl rfl ?_
    refine y_aload_n (q := 15) rfl rfl rfl ?_
    refine y_getI (q := 18) rfl rfl (by decide) (shS ha0) rfl rfl ?_
    refine y_iload_n (q := 19) rfl rfl rfl ?_
    refine y_guard (fun c4 => ?_)
    refine y_iast (n := 8) (N := 8) (X := (h a0 2).toInt) (K := (h a0 2).toInt.toNat) (q := 20) rfl (shS1 ha0) rfl rfl c4 rfl rfl (fun g3 => ?_)
    refine y_aload_n (q := 21) rfl rfl rfl ?_
    refine y_getR (b := (a0 + 2)) (q := 24) rfl rfl (by decide) (shS ha0) rfl rfl ?_
    refine y_aload_n (q := 25) rfl rfl rfl ?_
    refine y_getI (q := 28) rfl rfl (by decide) (shS ha0) rfl rfl ?_
    refine y_iload_n (q := 29) rfl rfl rfl ?_
    refine y_guard (fun c6 => ?_)
    refine y_iast (n := 8) (N := 8) (X := (g3 a0 2).toInt) (K := (g3 a0 2).toInt.toNat) (q := 30) rfl (shS2 ha0) rfl rfl c6 rfl rfl (fun g5 => ?_)
    refine y_aload_n (q := 31) rfl rfl rfl ?_
    refine y_getR (b := (a0 + 3)) (q := 34) rfl rfl (by decide) (shS ha0) rfl rfl ?_
    refine y_aload_n (q := 35) rfl rfl rfl ?_
    refine y_getI (q := 38) rfl rfl (by decide) (shS ha0) rfl rfl ?_
    refine y_iconst (x := (-1)) (q := 39) rfl (by decide) rfl ?_
    refine y_guard (fun c8 => ?_)
    refine y_iast (n := 8) (N := 8) (X := (g5 a0 2).toInt) (K := (g5 a0 2).toInt.toNat) (q := 40) rfl (shS3 ha0) rfl rfl c8 rfl rfl (fun g7 => ?_)
    refine y_aload_n (q := 41) rfl rfl rfl ?_
    refine y_dup (q := 42) rfl rfl ?_
    refine y_getI (q := 45) rfl rfl (by decide) (shS ha0) rfl rfl ?_
    refine y_iconst (x := 1) (q := 46) rfl (by decide) rfl ?_
    refine y_iadd (q := 47) rfl rfl ?_
    refine y_putI (q := 50) rfl rfl (by decide) (shS ha0) rfl rfl rfl rfl (fun g9 => ?_)
    exact y_retV rfl rfl rfl
  · skip
    exact y_retV rfl rfl rfl
def f_X3_tie (a0 : Nat) (v1 : Int32) (v2 : Int32) (v3 : Int32) (h : dH) : Option (dH) := if 0 ≤ v1.toInt ∧ v1.toInt < 8 then (if 0 ≤ v2.toInt ∧ v2.toInt < 8 then (oH (dU h (a0 + 5 + v1.toInt.toNat) (v2.toInt.toNat) v3) (fun g2 => if 0 ≤ v2.toInt ∧ v2.toInt < 8 then (if 0 ≤ v1.toInt ∧ v1.toInt < 8 then (oH (dU g2 (a0 + 5 + v2.toInt.toNat) (v1.toInt.toNat) v3) (fun g5 => some g5)) else none) else none)) else none) else none
theorem m_X3_tie {d : Nat} (hd : 1 ≤ d) (a0 : Nat) (ha0 : zS a0) (v1 : Int32) (v2 : Int32) (v3 : Int32) (h : dH) : dX shC d 30 [.ref a0, .int v1, .int v2, .int v3] dV (f_X3_tie a0 v1 v2 v3 h) h := by
  obtain ⟨e, rfl⟩ : ∃ e, d = e + 1 := ⟨d - 1, by omega⟩
  have hd : 0 ≤ e := by omega
  refine dX_of (mj := mj30) (lo := [some (.ref a0), some (.int v1), some (.int v2), some (.int v3)]) rfl (Nat.le_of_ble_eq_true rfl) rfl ?_
  unfold f_X3_tie
  refine y_aload_n (q := 1) rfl rfl rfl ?_
  refine y_getR (b := (a0 + 4)) (q := 4) rfl rfl (by decide) (shS ha0) rfl rfl ?_
  refine y_iload_n (q := 5) rfl rfl rfl ?_
  refine y_guard (fun c1 => ?_)
  refine y_aald (b := (a0 + 5 + v1.toInt.toNat)) (K := v1.toInt.toNat) (X := v1.toInt) (q := 6) hbC rfl (shS4 ha0) (by decide) rfl c1.1 rfl (shS4k _ (by omega : v1.toInt.toNat < 8)) rfl ?_
  refine y_iload_n (q := 7) rfl rfl rfl ?_
  refine y_iload_n (q := 8) rfl rfl rfl ?_
  refine y_guard (fun c3 => ?_)
  refine y_iast (n := 8) (N := 8) (X := v2.toInt) (K := v2.toInt.toNat) (q := 9) rfl (shSr ha0 (by omega : v1.toInt.toNat < 8)) rfl rfl c3 rfl rfl (fun g2 => ?_)
  refine y_aload_n (q := 10) rfl rfl rfl ?_
  refine y_getR (b := (a0 + 4)) (q := 13) rfl rfl (by decide) (shS ha0) rfl rfl ?_
  refine y_iload_n (q := 14) rfl rfl rfl ?_
  refine y_guard (fun c4 => ?_)
  refine y_aald (b := (a0 + 5 + v2.toInt.toNat)) (K := v2.toInt.toNat) (X := v2.toInt) (q := 15) hbC rfl (shS4 ha0) (by decide) rfl c4.1 rfl (shS4k _ (by omega : v2.toInt.toNat < 8)) rfl ?_
  refine y_iload_n (q := 16) rfl rfl rfl ?_
  refine y_iload_n (q := 17) rfl rfl rfl ?_
  refine y_guard (fun c6 => ?_)
  refine y_iast (n := 8) (N := 8) (X := v1.toInt) (K := v1.toInt.toNat) (q := 18) rfl (shSr ha0 (by omega : v2.toInt.toNat < 8)) rfl rfl c6 rfl rfl (fun g5 => ?_)
  exact y_retV rfl rfl rfl
def l_X3_acquaintances_4 (a0 : Nat) (v1 : Int32) (h : dH) (k : Int32 → Option (Int32)) : Nat → Int32 → Int32 → Option (Int32)
  | 0, _, _ => none
  | n + 1, v2, v3 => if v3.toInt < (h a0 2).toInt then (oP (f_X3_knows a0 v1 v3 h) (fun r3 => if r3.toInt = 0 then (l_X3_acquaintances_4 a0 v1 h k n v2 (v3 + 1) ) else (l_X3_acquaintances_4 a0 v1 h k n (v2 + 1) (v3 + 1) ))) else (k v2 )
theorem lz_X3_acquaintances_4 {d : Nat} (hd : 1 ≤ d) (a0 : Nat) (ha0 : zS a0) (v1 : Int32) (h : dH) (k : Int32 → Option (Int32)) (hk : ∀ (v2 : Int32) (w3 : Int32), dY shC d mj32 (dP h) (k v2) 30 [some (.ref a0), some (.int v1), some (.int v2), some (.int w3)] [] h) : ∀ (n : Nat) (v2 : Int32) (v3 : Int32), dY shC d mj32 (dP h) (l_X3_acquaintances_4 a0 v1 h k n v2 v3) 4 [some (.ref a0), some (.int v1), some (.int v2), some (.int v3)] [] h
  | 0, _, _ => dY_none
  | n + 1, v2, v3 => by
    rw [l_X3_acquaintances_4]
    refine y_iload_n (q := 5) rfl rfl rfl ?_
    refine y_aload_n (q := 6) rfl rfl rfl ?_
    refine y_getI (q := 9) rfl rfl (by decide) (shS ha0) rfl rfl ?_
    refine y_ge (q := 30) (q' := 12) rfl rfl rfl rfl rfl (fun c1 => ?_) (fun c2 => ?_)
    · skip
      refine y_aload_n (q := 13) rfl rfl rfl ?_
      refine y_iload_n (q := 14) rfl rfl rfl ?_
      refine y_iload_n (q := 15) rfl rfl rfl ?_
      refine y_callP (I := .invokevirtual 51) (idx := 51) (KD := 1) (J := 41) (mj := mj31) (as := [.ref a0, .int v1, .int v3]) (r := []) (q := 18) rfl (fun _ _ _ _ _ _ => rfl) rfl (by decide) rfl rfl rfl rfl rfl (Nat.le_of_ble_eq_true rfl) (d_recv (shS ha0) (by decide) (by decide)) rfl (m_X3_knows (Nat.le_trans (by decide) hd) a0 ha0 v1 v3 h) (fun r3 => ?_)
      refine y_eq0 (q := 24) (q' := 21) rfl rfl rfl rfl (fun c4 => ?_) (fun c5 => ?_)
      · skip
        refine y_iinc (z := (v3 + 1)) (lo' := [some (.ref a0), some (.int v1), some (.int v2), some (.int (v3 + 1))]) (q := 27) rfl rfl (Nat.le_of_ble_eq_true rfl) (by rw [oi_1]) rfl rfl ?_
        refine y_goto (q := 4) rfl rfl ?_
        exact lz_X3_acquaintances_4 hd a0 ha0 v1 h k hk n v2 (v3 + 1)  
      · skip
        refine y_iinc (z := (v2 + 1)) (lo' := [some (.ref a0), some (.int v1), some (.int (v2 + 1)), some (.int v3)]) (q := 24) rfl rfl (Nat.le_of_ble_eq_true rfl) (by rw [oi_1]) rfl rfl ?_
        refine y_iinc (z := (v3 + 1)) (lo' := [some (.ref a0), some (.int v1), some (.int (v2 + 1)), some (.int (v3 + 1))]) (q := 27) rfl rfl (Nat.le_of_ble_eq_true rfl) (by rw [oi_1]) rfl rfl ?_
        refine y_goto (q := 4) rfl rfl ?_
        exact lz_X3_acquaintances_4 hd a0 ha0 v1 h k hk n (v2 + 1) (v3 + 1)  
    · skip
      exact hk v2 v3 
def f_X3_acquaintances (a0 : Nat) (v1 : Int32) (h : dH) : Option (Int32) := l_X3_acquaintances_4 a0 v1 h (fun v2_6 => (some v2_6)) fuel0 0 0 
theorem m_X3_acquaintances {d : Nat} (hd : 2 ≤ d) (a0 : Nat) (ha0 : zS a0) (v1 : Int32) (h : dH) : dX shC d 32 [.ref a0, .int v1] (dP h) (f_X3_acquaintances a0 v1 h) h := by
  obtain ⟨e, rfl⟩ : ∃ e, d = e + 1 := ⟨d - 1, by omega⟩
  have hd : 1 ≤ e := by omega
  refine dX_of (mj := mj32) (lo := [some (.ref a0), some (.int v1), none, none]) rfl (Nat.le_of_ble_eq_true rfl) rfl ?_
  unfold f_X3_acquaintances
  refine y_iconst (x := 0) (q := 1) rfl (by decide) rfl ?_
  refine y_istore_n (lo' := [some (.ref a0), some (.int v1), some (.int 0), none]) (q := 2) rfl (Nat.le_of_ble_eq_true rfl) rfl rfl ?_
  refine y_iconst (x := 0) (q := 3) rfl (by decide) rfl ?_
  refine y_istore_n (lo' := [some (.ref a0), some (.int v1), some (.int 0), some (.int 0)]) (q := 4) rfl (Nat.le_of_ble_eq_true rfl) rfl rfl ?_
  refine lz_X3_acquaintances_4 hd a0 ha0 v1 h _ (fun v2_6 z7 => ?_) fuel0 0 0  
  refine y_iload_n (q := 31) rfl rfl rfl ?_
  exact y_retP rfl (by decide) rfl rfl
def l_X3_friends_16 (a0 : Nat) (v2 : Int32) (h : dH) (k : Int32 → Option (Int32)) : Nat → Int32 → Int32 → Option (Int32)
  | 0, _, _ => none
  | n + 1, v1, v3 => if v3.toInt < (h a0 2).toInt then (oP (f_X3_knows a0 v2 v3 h) (fun r5 => if r5.toInt = 0 then (l_X3_friends_16 a0 v2 h k n v1 (v3 + 1) ) else (l_X3_friends_16 a0 v2 h k n (v1 + 1) (v3 + 1) ))) else (k v1 )
theorem lz_X3_friends_16 {d : Nat} (hd : 1 ≤ d) (a0 : Nat) (ha0 : zS a0) (v2 : Int32) (h : dH) (k : Int32 → Option (Int32)) (hk : ∀ (v1 : Int32) (w3 : Int32), dY shC d mj33 (dP h) (k v1) 42 [some (.ref a0), some (.int v1), some (.int v2), some (.int w3)] [] h) : ∀ (n : Nat) (v1 : Int32) (v3 : Int32), dY shC d mj33 (dP h) (l_X3_friends_16 a0 v2 h k n v1 v3) 16 [some (.ref a0), some (.int v1), some (.int v2), some (.int v3)] [] h
  | 0, _, _ => dY_none
  | n + 1, v1, v3 => by
    rw [l_X3_friends_16]
    refine y_iload_n (q := 17) rfl rfl rfl ?_
    refine y_aload_n (q := 18) rfl rfl rfl ?_
    refine y_getI (q := 21) rfl rfl (by decide) (shS ha0) rfl rfl ?_
    refine y_ge (q := 42) (q' := 24) rfl rfl rfl rfl rfl (fun c3 => ?_) (fun c4 => ?_)
    · skip
      refine y_aload_n (q := 25) rfl rfl rfl ?_
      refine y_iload_n (q := 26) rfl rfl rfl ?_
      refine y_iload_n (q := 27) rfl rfl rfl ?_
      refine y_callP (I := .invokevirtual 51) (idx := 51) (KD := 1) (J := 41) (mj := mj31) (as := [.ref a0, .int v2, .int v3]) (r := []) (q := 30) rfl (fun _ _ _ _ _ _ => rfl) rfl (by decide) rfl rfl rfl rfl rfl (Nat.le_of_ble_eq_true rfl) (d_recv (shS ha0) (by decide) (by decide)) rfl (m_X3_knows (Nat.le_trans (by decide) hd) a0 ha0 v2 v3 h) (fun r5 => ?_)
      refine y_eq0 (q := 36) (q' := 33) rfl rfl rfl rfl (fun c6 => ?_) (fun c7 => ?_)
      · skip
        refine y_iinc (z := (v3 + 1)) (lo' := [some (.ref a0), some (.int v1), some (.int v2), some (.int (v3 + 1))]) (q := 39) rfl rfl (Nat.le_of_ble_eq_true rfl) (by rw [oi_1]) rfl rfl ?_
        refine y_goto (q := 16) rfl rfl ?_
        exact lz_X3_friends_16 hd a0 ha0 v2 h k hk n v1 (v3 + 1)  
      · skip
        refine y_iinc (z := (v1 + 1)) (lo' := [some (.ref a0), some (.int (v1 + 1)), some (.int v2), some (.int v3)]) (q := 36) rfl rfl (Nat.le_of_ble_eq_true rfl) (by rw [oi_1]) rfl rfl ?_
        refine y_iinc (z := (v3 + 1)) (lo' := [some (.ref a0), some (.int (v1 + 1)), some (.int v2), some (.int (v3 + 1))]) (q := 39) rfl rfl (Nat.le_of_ble_eq_true rfl) (by rw [oi_1]) rfl rfl ?_
        refine y_goto (q := 16) rfl rfl ?_
        exact lz_X3_friends_16 hd a0 ha0 v2 h k hk n (v1 + 1) (v3 + 1)  
    · skip
      exact hk v1 v3 
def l_X3_friends_4 (a0 : Nat) (h : dH) (k : Int32 → Option (Int32)) : Nat → Int32 → Int32 → Option (Int32)
  | 0, _, _ => none
  | n + 1, v1, v2 => if v2.toInt < (h a0 2).toInt then (l_X3_friends_16 a0 v2 h (fun v1_8 => l_X3_friends_4 a0 h k n v1_8 (v2 + 1) ) fuel0 v1 (v2 + 1) ) else (k v1 )
theorem lz_X3_friends_4 {d : Nat} (hd : 1 ≤ d) (a0 : Nat) (ha0 : zS a0) (h : dH) (k : Int32 → Option (Int32)) (hk : ∀ (v1 : Int32) (w2 : Int32) (z3 : Option Value), dY shC d mj33 (dP h) (k v1) 48 [some (.ref a0), some (.int v1), some (.int w2), z3] [] h) : ∀ (n : Nat) (v1 : Int32) (v2 : Int32) (z3 : Option Value), dY shC d mj33 (dP h) (l_X3_friends_4 a0 h k n v1 v2) 4 [some (.ref a0), some (.int v1), some (.int v2), z3] [] h
  | 0, _, _, _ => dY_none
  | n + 1, v1, v2, z3 => by
    rw [l_X3_friends_4]
    refine y_iload_n (q := 5) rfl rfl rfl ?_
    refine y_aload_n (q := 6) rfl rfl rfl ?_
    refine y_getI (q := 9) rfl rfl (by decide) (shS ha0) rfl rfl ?_
    refine y_ge (q := 48) (q' := 12) rfl rfl rfl rfl rfl (fun c1 => ?_) (fun c2 => ?_)
    · skip
      refine y_iload_n (q := 13) rfl rfl rfl ?_
      refine y_iconst (x := 1) (q := 14) rfl (by decide) rfl ?_
      refine y_iadd (q := 15) rfl rfl ?_
      refine y_istore_n (lo' := [some (.ref a0), some (.int v1), some (.int v2), some (.int (v2 + 1))]) (q := 16) rfl (Nat.le_of_ble_eq_true rfl) rfl rfl ?_
      refine lz_X3_friends_16 hd a0 ha0 v2 h _ (fun v1_8 z9 => ?_) fuel0 v1 (v2 + 1)  
      refine y_iinc (z := (v2 + 1)) (lo' := [some (.ref a0), some (.int v1_8), some (.int (v2 + 1)), some (.int z9)]) (q := 45) rfl rfl (Nat.le_of_ble_eq_true rfl) (by rw [oi_1]) rfl rfl ?_
      refine y_goto (q := 4) rfl rfl ?_
      exact lz_X3_friends_4 hd a0 ha0 h k hk n v1_8 (v2 + 1)  (some (.int z9))
    · skip
      exact hk v1 v2 (z3) 
def f_X3_friends (a0 : Nat) (h : dH) : Option (Int32) := l_X3_friends_4 a0 h (fun v1_10 => (some v1_10)) fuel0 0 0 
theorem m_X3_friends {d : Nat} (hd : 2 ≤ d) (a0 : Nat) (ha0 : zS a0) (h : dH) : dX shC d 33 [.ref a0] (dP h) (f_X3_friends a0 h) h := by
  obtain ⟨e, rfl⟩ : ∃ e, d = e + 1 := ⟨d - 1, by omega⟩
  have hd : 1 ≤ e := by omega
  refine dX_of (mj := mj33) (lo := [some (.ref a0), none, none, none]) rfl (Nat.le_of_ble_eq_true rfl) rfl ?_
  unfold f_X3_friends
  refine y_iconst (x := 0) (q := 1) rfl (by decide) rfl ?_
  refine y_istore_n (lo' := [some (.ref a0), some (.int 0), none, none]) (q := 2) rfl (Nat.le_of_ble_eq_true rfl) rfl rfl ?_
  refine y_iconst (x := 0) (q := 3) rfl (by decide) rfl ?_
  refine y_istore_n (lo' := [some (.ref a0), some (.int 0), some (.int 0), none]) (q := 4) rfl (Nat.le_of_ble_eq_true rfl) rfl rfl ?_
  refine lz_X3_friends_4 hd a0 ha0 h _ (fun v1_10 z11 z12 => ?_) fuel0 0 0  (none)
  refine y_iload_n (q := 49) rfl rfl rfl ?_
  exact y_retP rfl (by decide) rfl rfl
def l_X3_allStrength_16 (a0 : Nat) (v2 : Int32) (h : dH) (k : Int32 → Option (Int32)) : Nat → Int32 → Int32 → Option (Int32)
  | 0, _, _ => none
  | n + 1, v1, v3 => if v3.toInt < (h a0 2).toInt then (if 0 ≤ v2.toInt ∧ v2.toInt < 8 then (if 0 ≤ v3.toInt ∧ v3.toInt < 8 then (l_X3_allStrength_16 a0 v2 h k n (v1 + (h (a0 + 5 + v2.toInt.toNat) (v3.toInt.toNat))) (v3 + 1) ) else none) else none) else (k v1 )
theorem lz_X3_allStrength_16 {d : Nat} (hd : 0 ≤ d) (a0 : Nat) (ha0 : zS a0) (v2 : Int32) (h : dH) (k : Int32 → Option (Int32)) (hk : ∀ (v1 : Int32) (w3 : Int32), dY shC d mj34 (dP h) (k v1) 41 [some (.ref a0), some (.int v1), some (.int v2), some (.int w3)] [] h) : ∀ (n : Nat) (v1 : Int32) (v3 : Int32), dY shC d mj34 (dP h) (l_X3_allStrength_16 a0 v2 h k n v1 v3) 16 [some (.ref a0), some (.int v1), some (.int v2), some (.int v3)] [] h
  | 0, _, _ => dY_none
  | n + 1, v1, v3 => by
    rw [l_X3_allStrength_16]
    refine y_iload_n (q := 17) rfl rfl rfl ?_
    refine y_aload_n (q := 18) rfl rfl rfl ?_
    refine y_getI (q := 21) rfl rfl (by decide) (shS ha0) rfl rfl ?_
    refine y_ge (q := 41) (q' := 24) rfl rfl rfl rfl rfl (fun c3 => ?_) (fun c4 => ?_)
    · skip
      refine y_iload_n (q := 25) rfl rfl rfl ?_
      refine y_aload_n (q := 26) rfl rfl rfl ?_
      refine y_getR (b := (a0 + 4)) (q := 29) rfl rfl (by decide) (shS ha0) rfl rfl ?_
      refine y_iload_n (q := 30) rfl rfl rfl ?_
      refine y_guard (fun c5 => ?_)
      refine y_aald (b := (a0 + 5 + v2.toInt.toNat)) (K := v2.toInt.toNat) (X := v2.toInt) (q := 31) hbC rfl (shS4 ha0) (by decide) rfl c5.1 rfl (shS4k _ (by omega : v2.toInt.toNat < 8)) rfl ?_
      refine y_iload_n (q := 32) rfl rfl rfl ?_
      refine y_guard (fun c6 => ?_)
      refine y_iald (n := 8) (N := 8) (X := v3.toInt) (K := v3.toInt.toNat) (q := 33) hbC rfl (shSr ha0 (by omega : v2.toInt.toNat < 8)) rfl rfl c6 rfl rfl ?_
      refine y_iadd (q := 34) rfl rfl ?_
      refine y_istore_n (lo' := [some (.ref a0), some (.int (v1 + (h (a0 + 5 + v2.toInt.toNat) (v3.toInt.toNat)))), some (.int v2), some (.int v3)]) (q := 35) rfl (Nat.le_of_ble_eq_true rfl) rfl rfl ?_
      refine y_iinc (z := (v3 + 1)) (lo' := [some (.ref a0), some (.int (v1 + (h (a0 + 5 + v2.toInt.toNat) (v3.toInt.toNat)))), some (.int v2), some (.int (v3 + 1))]) (q := 38) rfl rfl (Nat.le_of_ble_eq_true rfl) (by rw [oi_1]) rfl rfl ?_
      refine y_goto (q := 16) rfl rfl ?_
      exact lz_X3_allStrength_16 hd a0 ha0 v2 h k hk n (v1 + (h (a0 + 5 + v2.toInt.toNat) (v3.toInt.toNat))) (v3 + 1)  
    · skip
      exact hk v1 v3 
def l_X3_allStrength_4 (a0 : Nat) (h : dH) (k : Int32 → Option (Int32)) : Nat → Int32 → Int32 → Option (Int32)
  | 0, _, _ => none
  | n + 1, v1, v2 => if v2.toInt < (h a0 2).toInt then (l_X3_allStrength_16 a0 v2 h (fun v1_7 => l_X3_allStrength_4 a0 h k n v1_7 (v2 + 1) ) fuel0 v1 (v2 + 1) ) else (k v1 )
theorem lz_X3_allStrength_4 {d : Nat} (hd : 0 ≤ d) (a0 : Nat) (ha0 : zS a0) (h : dH) (k : Int32 → Option (Int32)) (hk : ∀ (v1 : Int32) (w2 : Int32) (z3 : Option Value), dY shC d mj34 (dP h) (k v1) 47 [some (.ref a0), some (.int v1), some (.int w2), z3] [] h) : ∀ (n : Nat) (v1 : Int32) (v2 : Int32) (z3 : Option Value), dY shC d mj34 (dP h) (l_X3_allStrength_4 a0 h k n v1 v2) 4 [some (.ref a0), some (.int v1), some (.int v2), z3] [] h
  | 0, _, _, _ => dY_none
  | n + 1, v1, v2, z3 => by
    rw [l_X3_allStrength_4]
    refine y_iload_n (q := 5) rfl rfl rfl ?_
    refine y_aload_n (q := 6) rfl rfl rfl ?_
    refine y_getI (q := 9) rfl rfl (by decide) (shS ha0) rfl rfl ?_
    refine y_ge (q := 47) (q' := 12) rfl rfl rfl rfl rfl (fun c1 => ?_) (fun c2 => ?_)
    · skip
      refine y_iload_n (q := 13) rfl rfl rfl ?_
      refine y_iconst (x := 1) (q := 14) rfl (by decide) rfl ?_
      refine y_iadd (q := 15) rfl rfl ?_
      refine y_istore_n (lo' := [some (.ref a0), some (.int v1), some (.int v2), some (.int (v2 + 1))]) (q := 16) rfl (Nat.le_of_ble_eq_true rfl) rfl rfl ?_
      refine lz_X3_allStrength_16 hd a0 ha0 v2 h _ (fun v1_7 z8 => ?_) fuel0 v1 (v2 + 1)  
      refine y_iinc (z := (v2 + 1)) (lo' := [some (.ref a0), some (.int v1_7), some (.int (v2 + 1)), some (.int z8)]) (q := 44) rfl rfl (Nat.le_of_ble_eq_true rfl) (by rw [oi_1]) rfl rfl ?_
      refine y_goto (q := 4) rfl rfl ?_
      exact lz_X3_allStrength_4 hd a0 ha0 h k hk n v1_7 (v2 + 1)  (some (.int z8))
    · skip
      exact hk v1 v2 (z3) 
def f_X3_allStrength (a0 : Nat) (h : dH) : Option (Int32) := l_X3_allStrength_4 a0 h (fun v1_9 => (some v1_9)) fuel0 0 0 
theorem m_X3_allStrength {d : Nat} (hd : 1 ≤ d) (a0 : Nat) (ha0 : zS a0) (h : dH) : dX shC d 34 [.ref a0] (dP h) (f_X3_allStrength a0 h) h := by
  obtain ⟨e, rfl⟩ : ∃ e, d = e + 1 := ⟨d - 1, by omega⟩
  have hd : 0 ≤ e := by omega
  refine dX_of (mj := mj34) (lo := [some (.ref a0), none, none, none]) rfl (Nat.le_of_ble_eq_true rfl) rfl ?_
  unfold f_X3_allStrength
  refine y_iconst (x := 0) (q := 1) rfl (by decide) rfl ?_
  refine y_istore_n (lo' := [some (.ref a0), some (.int 0), none, none]) (q := 2) rfl (Nat.le_of_ble_eq_true rfl) rfl rfl ?_
  refine y_iconst (x := 0) (q := 3) rfl (by decide) rfl ?_
  refine y_istore_n (lo' := [some (.ref a0), some (.int 0), some (.int 0), none]) (q := 4) rfl (Nat.le_of_ble_eq_true rfl) rfl rfl ?_
  refine lz_X3_allStrength_4 hd a0 ha0 h _ (fun v1_9 z10 z11 => ?_) fuel0 0 0  (none)
  refine y_iload_n (q := 48) rfl rfl rfl ?_
  exact y_retP rfl (by decide) rfl rfl
def l_X3_seatsAt_11 (a0 : Nat) (v1 : Int32) (h : dH) (k : Int32 → Option (Int32)) : Nat → Int32 → Int32 → Option (Int32)
  | 0, _, _ => none
  | n + 1, v2, v3 => if v3.toInt < (h a0 2).toInt then (if 0 ≤ v3.toInt ∧ v3.toInt < 8 then (if (h (a0 + 3) (v3.toInt.toNat)).toInt = v1.toInt then (l_X3_seatsAt_11 a0 v1 h k n (v2 + 1) (v3 + 1) ) else (l_X3_seatsAt_11 a0 v1 h k n v2 (v3 + 1) )) else none) else (k v2 )
theorem lz_X3_seatsAt_11 {d : Nat} (hd : 0 ≤ d) (a0 : Nat) (ha0 : zS a0) (v1 : Int32) (h : dH) (k : Int32 → Option (Int32)) (hk : ∀ (v2 : Int32) (w3 : Int32), dY shC d mj35 (dP h) (k v2) 38 [some (.ref a0), some (.int v1), some (.int v2), some (.int w3)] [] h) : ∀ (n : Nat) (v2 : Int32) (v3 : Int32), dY shC d mj35 (dP h) (l_X3_seatsAt_11 a0 v1 h k n v2 v3) 11 [some (.ref a0), some (.int v1), some (.int v2), some (.int v3)] [] h
  | 0, _, _ => dY_none
  | n + 1, v2, v3 => by
    rw [l_X3_seatsAt_11]
    refine y_iload_n (q := 12) rfl rfl rfl ?_
    refine y_aload_n (q := 13) rfl rfl rfl ?_
    refine y_getI (q := 16) rfl rfl (by decide) (shS ha0) rfl rfl ?_
    refine y_ge (q := 38) (q' := 19) rfl rfl rfl rfl rfl (fun c3 => ?_) (fun c4 => ?_)
    · skip
      refine y_aload_n (q := 20) rfl rfl rfl ?_
      refine y_getR (b := (a0 + 3)) (q := 23) rfl rfl (by decide) (shS ha0) rfl rfl ?_
      refine y_iload_n (q := 24) rfl rfl rfl ?_
      refine y_guard (fun c5 => ?_)
      refine y_iald (n := 8) (N := 8) (X := v3.toInt) (K := v3.toInt.toNat) (q := 25) hbC rfl (shS3 ha0) rfl rfl c5 rfl rfl ?_
      refine y_iload_n (q := 26) rfl rfl rfl ?_
      refine y_ne (q := 32) (q' := 29) rfl rfl rfl rfl rfl (fun c6 => ?_) (fun c7 => ?_)
      · skip
        refine y_iinc (z := (v2 + 1)) (lo' := [some (.ref a0), some (.int v1), some (.int (v2 + 1)), some (.int v3)]) (q := 32) rfl rfl (Nat.le_of_ble_eq_true rfl) (by rw [oi_1]) rfl rfl ?_
        refine y_iinc (z := (v3 + 1)) (lo' := [some (.ref a0), some (.int v1), some (.int (v2 + 1)), some (.int (v3 + 1))]) (q := 35) rfl rfl (Nat.le_of_ble_eq_true rfl) (by rw [oi_1]) rfl rfl ?_
        refine y_goto (q := 11) rfl rfl ?_
        exact lz_X3_seatsAt_11 hd a0 ha0 v1 h k hk n (v2 + 1) (v3 + 1)  
      · skip
        refine y_iinc (z := (v3 + 1)) (lo' := [some (.ref a0), some (.int v1), some (.int v2), some (.int (v3 + 1))]) (q := 35) rfl rfl (Nat.le_of_ble_eq_true rfl) (by rw [oi_1]) rfl rfl ?_
        refine y_goto (q := 11) rfl rfl ?_
        exact lz_X3_seatsAt_11 hd a0 ha0 v1 h k hk n v2 (v3 + 1)  
    · skip
      exact hk v2 v3 
def f_X3_seatsAt (a0 : Nat) (v1 : Int32) (h : dH) : Option (Int32) := if v1.toInt = (-1) then ((some 0)) else (l_X3_seatsAt_11 a0 v1 h (fun v2_8 => (some v2_8)) fuel0 0 0 )
theorem m_X3_seatsAt {d : Nat} (hd : 1 ≤ d) (a0 : Nat) (ha0 : zS a0) (v1 : Int32) (h : dH) : dX shC d 35 [.ref a0, .int v1] (dP h) (f_X3_seatsAt a0 v1 h) h := by
  obtain ⟨e, rfl⟩ : ∃ e, d = e + 1 := ⟨d - 1, by omega⟩
  have hd : 0 ≤ e := by omega
  refine dX_of (mj := mj35) (lo := [some (.ref a0), some (.int v1), none, none]) rfl (Nat.le_of_ble_eq_true rfl) rfl ?_
  unfold f_X3_seatsAt
  refine y_iload_n (q := 1) rfl rfl rfl ?_
  refine y_iconst (x := (-1)) (q := 2) rfl (by decide) rfl ?_
  refine y_ne (q := 7) (q' := 5) rfl rfl (by decide) rfl rfl (fun c1 => ?_) (fun c2 => ?_)
  · skip
    refine y_iconst (x := 0) (q := 6) rfl (by decide) rfl ?_
    exact y_retP rfl (by decide) rfl rfl
  · skip
    refine y_iconst (x := 0) (q := 8) rfl (by decide) rfl ?_
    refine y_istore_n (lo' := [some (.ref a0), some (.int v1), some (.int 0), none]) (q := 9) rfl (Nat.le_of_ble_eq_true rfl) rfl rfl ?_
    refine y_iconst (x := 0) (q := 10) rfl (by decide) rfl ?_
    refine y_istore_n (lo' := [some (.ref a0), some (.int v1), some (.int 0), some (.int 0)]) (q := 11) rfl (Nat.le_of_ble_eq_true rfl) rfl rfl ?_
    refine lz_X3_seatsAt_11 hd a0 ha0 v1 h _ (fun v2_8 z9 => ?_) fuel0 0 0  
    refine y_iload_n (q := 39) rfl rfl rfl ?_
    exact y_retP rfl (by decide) rfl rfl
def l_X3_seated_4 (a0 : Nat) (h : dH) (k : Int32 → Option (Int32)) : Nat → Int32 → Int32 → Option (Int32)
  | 0, _, _ => none
  | n + 1, v1, v2 => if v2.toInt < 4 then (oP (f_X3_seatsAt a0 v2 h) (fun r3 => l_X3_seated_4 a0 h k n (v1 + r3) (v2 + 1) )) else (k v1 )
theorem lz_X3_seated_4 {d : Nat} (hd : 1 ≤ d) (a0 : Nat) (ha0 : zS a0) (h : dH) (k : Int32 → Option (Int32)) (hk : ∀ (v1 : Int32) (w2 : Int32), dY shC d mj36 (dP h) (k v1) 23 [some (.ref a0), some (.int v1), some (.int w2)] [] h) : ∀ (n : Nat) (v1 : Int32) (v2 : Int32), dY shC d mj36 (dP h) (l_X3_seated_4 a0 h k n v1 v2) 4 [some (.ref a0), some (.int v1), some (.int v2)] [] h
  | 0, _, _ => dY_none
  | n + 1, v1, v2 => by
    rw [l_X3_seated_4]
    refine y_iload_n (q := 5) rfl rfl rfl ?_
    refine y_iconst (x := 4) (q := 6) rfl (by decide) rfl ?_
    refine y_ge (q := 23) (q' := 9) rfl rfl (by decide) rfl rfl (fun c1 => ?_) (fun c2 => ?_)
    · skip
      refine y_iload_n (q := 10) rfl rfl rfl ?_
      refine y_aload_n (q := 11) rfl rfl rfl ?_
      refine y_iload_n (q := 12) rfl rfl rfl ?_
      refine y_callP (I := .invokevirtual 55) (idx := 55) (KD := 1) (J := 45) (mj := mj35) (as := [.ref a0, .int v2]) (r := [.int v1]) (q := 15) rfl (fun _ _ _ _ _ _ => rfl) rfl (by decide) rfl rfl rfl rfl rfl (Nat.le_of_ble_eq_true rfl) (d_recv (shS ha0) (by decide) (by decide)) rfl (m_X3_seatsAt (Nat.le_trans (by decide) hd) a0 ha0 v2 h) (fun r3 => ?_)
      refine y_iadd (q := 16) rfl rfl ?_
      refine y_istore_n (lo' := [some (.ref a0), some (.int (v1 + r3)), some (.int v2)]) (q := 17) rfl (Nat.le_of_ble_eq_true rfl) rfl rfl ?_
      refine y_iinc (z := (v2 + 1)) (lo' := [some (.ref a0), some (.int (v1 + r3)), some (.int (v2 + 1))]) (q := 20) rfl rfl (Nat.le_of_ble_eq_true rfl) (by rw [oi_1]) rfl rfl ?_
      refine y_goto (q := 4) rfl rfl ?_
      exact lz_X3_seated_4 hd a0 ha0 h k hk n (v1 + r3) (v2 + 1)  
    · skip
      exact hk v1 v2 
def f_X3_seated (a0 : Nat) (h : dH) : Option (Int32) := l_X3_seated_4 a0 h (fun v1_4 => (some v1_4)) fuel0 0 0 
theorem m_X3_seated {d : Nat} (hd : 2 ≤ d) (a0 : Nat) (ha0 : zS a0) (h : dH) : dX shC d 36 [.ref a0] (dP h) (f_X3_seated a0 h) h := by
  obtain ⟨e, rfl⟩ : ∃ e, d = e + 1 := ⟨d - 1, by omega⟩
  have hd : 1 ≤ e := by omega
  refine dX_of (mj := mj36) (lo := [some (.ref a0), none, none]) rfl (Nat.le_of_ble_eq_true rfl) rfl ?_
  unfold f_X3_seated
  refine y_iconst (x := 0) (q := 1) rfl (by decide) rfl ?_
  refine y_istore_n (lo' := [some (.ref a0), some (.int 0), none]) (q := 2) rfl (Nat.le_of_ble_eq_true rfl) rfl rfl ?_
  refine y_iconst (x := 0) (q := 3) rfl (by decide) rfl ?_
  refine y_istore_n (lo' := [some (.ref a0), some (.int 0), some (.int 0)]) (q := 4) rfl (Nat.le_of_ble_eq_true rfl) rfl rfl ?_
  refine lz_X3_seated_4 hd a0 ha0 h _ (fun v1_4 z5 => ?_) fuel0 0 0  
  refine y_iload_n (q := 24) rfl rfl rfl ?_
  exact y_retP rfl (by decide) rfl rfl
def f_X3_look (a0 : Nat) (v1 : Int32) (v2 : Int32) (h : dH) : Option (dH) := if 0 ≤ v1.toInt ∧ v1.toInt < 8 then (if 0 ≤ v2.toInt ∧ v2.toInt < 8 then (oH (dU h (a0 + 13) 0 (h (a0 + 5 + v1.toInt.toNat) (v2.toInt.toNat))) (fun g3 => if 0 ≤ v1.toInt ∧ v1.toInt < 8 then (oH (dU g3 (a0 + 13) 1 (g3 (a0 + 2) (v1.toInt.toNat))) (fun g5 => if 0 ≤ v2.toInt ∧ v2.toInt < 8 then (oH (dU g5 (a0 + 13) 2 (g5 (a0 + 2) (v2.toInt.toNat))) (fun g7 => if 0 ≤ v1.toInt ∧ v1.toInt < 8 then (oP (f_X3_seatsAt a0 (g7 (a0 + 3) (v1.toInt.toNat)) g7) (fun r9 => oH (dU g7 (a0 + 13) 3 r9) (fun g10 => oH (dU g10 (a0 + 13) 4 (g10 a0 0)) (fun g11 => oH (dU g11 (a0 + 13) 5 (dabs (v1 - v2))) (fun g12 => some g12))))) else none)) else none)) else none)) else none) else none
theorem m_X3_look {d : Nat} (hd : 2 ≤ d) (a0 : Nat) (ha0 : zS a0) (v1 : Int32) (v2 : Int32) (h : dH) : dX shC d 40 [.ref a0, .int v1, .int v2] dV (f_X3_look a0 v1 v2 h) h := by
  obtain ⟨e, rfl⟩ : ∃ e, d = e + 1 := ⟨d - 1, by omega⟩
  have hd : 1 ≤ e := by omega
  refine dX_of (mj := mj40) (lo := [some (.ref a0), some (.int v1), some (.int v2)]) rfl (Nat.le_of_ble_eq_true rfl) rfl ?_
  unfold f_X3_look
  refine y_aload_n (q := 1) rfl rfl rfl ?_
  refine y_getR (b := (a0 + 13)) (q := 4) rfl rfl (by decide) (shS ha0) rfl rfl ?_
  refine y_iconst (x := 0) (q := 5) rfl (by decide) rfl ?_
  refine y_aload_n (q := 6) rfl rfl rfl ?_
  refine y_getR (b := (a0 + 4)) (q := 9) rfl rfl (by decide) (shS ha0) rfl rfl ?_
  refine y_iload_n (q := 10) rfl rfl rfl ?_
  refine y_guard (fun c1 => ?_)
  refine y_aald (b := (a0 + 5 + v1.toInt.toNat)) (K := v1.toInt.toNat) (X := v1.toInt) (q := 11) hbC rfl (shS4 ha0) (by decide) rfl c1.1 rfl (shS4k _ (by omega : v1.toInt.toNat < 8)) rfl ?_
  refine y_iload_n (q := 12) rfl rfl rfl ?_
  refine y_guard (fun c2 => ?_)
  refine y_iald (n := 8) (N := 8) (X := v2.toInt) (K := v2.toInt.toNat) (q := 13) hbC rfl (shSr ha0 (by omega : v1.toInt.toNat < 8)) rfl rfl c2 rfl rfl ?_
  refine y_iast (n := 6) (N := 6) (X := 0) (K := 0) (q := 14) rfl (shS13 ha0) rfl (by decide) ⟨by decide, by decide⟩ rfl rfl (fun g3 => ?_)
  refine y_aload_n (q := 15) rfl rfl rfl ?_
  refine y_getR (b := (a0 + 13)) (q := 18) rfl rfl (by decide) (shS ha0) rfl rfl ?_
  refine y_iconst (x := 1) (q := 19) rfl (by decide) rfl ?_
  refine y_aload_n (q := 20) rfl rfl rfl ?_
  refine y_getR (b := (a0 + 2)) (q := 23) rfl rfl (by decide) (shS ha0) rfl rfl ?_
  refine y_iload_n (q := 24) rfl rfl rfl ?_
  refine y_guard (fun c4 => ?_)
  refine y_iald (n := 8) (N := 8) (X := v1.toInt) (K := v1.toInt.toNat) (q := 25) hbC rfl (shS2 ha0) rfl rfl c4 rfl rfl ?_
  refine y_iast (n := 6) (N := 6) (X := 1) (K := 1) (q := 26) rfl (shS13 ha0) rfl (by decide) ⟨by decide, by decide⟩ rfl rfl (fun g5 => ?_)
  refine y_aload_n (q := 27) rfl rfl rfl ?_
  refine y_getR (b := (a0 + 13)) (q := 30) rfl rfl (by decide) (shS ha0) rfl rfl ?_
  refine y_iconst (x := 2) (q := 31) rfl (by decide) rfl ?_
  refine y_aload_n (q := 32) rfl rfl rfl ?_
  refine y_getR (b := (a0 + 2)) (q := 35) rfl rfl (by decide) (shS ha0) rfl rfl ?_
  refine y_iload_n (q := 36) rfl rfl rfl ?_
  refine y_guard (fun c6 => ?_)
  refine y_iald (n := 8) (N := 8) (X := v2.toInt) (K := v2.toInt.toNat) (q := 37) hbC rfl (shS2 ha0) rfl rfl c6 rfl rfl ?_
  refine y_iast (n := 6) (N := 6) (X := 2) (K := 2) (q := 38) rfl (shS13 ha0) rfl (by decide) ⟨by decide, by decide⟩ rfl rfl (fun g7 => ?_)
  refine y_aload_n (q := 39) rfl rfl rfl ?_
  refine y_getR (b := (a0 + 13)) (q := 42) rfl rfl (by decide) (shS ha0) rfl rfl ?_
  refine y_iconst (x := 3) (q := 43) rfl (by decide) rfl ?_
  refine y_aload_n (q := 44) rfl rfl rfl ?_
  refine y_aload_n (q := 45) rfl rfl rfl ?_
  refine y_getR (b := (a0 + 3)) (q := 48) rfl rfl (by decide) (shS ha0) rfl rfl ?_
  refine y_iload_n (q := 49) rfl rfl rfl ?_
  refine y_guard (fun c8 => ?_)
  refine y_iald (n := 8) (N := 8) (X := v1.toInt) (K := v1.toInt.toNat) (q := 50) hbC rfl (shS3 ha0) rfl rfl c8 rfl rfl ?_
  refine y_callP (I := .invokevirtual 55) (idx := 55) (KD := 1) (J := 45) (mj := mj35) (as := [.ref a0, .int (g7 (a0 + 3) (v1.toInt.toNat))]) (r := [.int 3, .ref (a0 + 13)]) (q := 53) rfl (fun _ _ _ _ _ _ => rfl) rfl (by decide) rfl rfl rfl rfl rfl (Nat.le_of_ble_eq_true rfl) (d_recv (shS ha0) (by decide) (by decide)) rfl (m_X3_seatsAt (Nat.le_trans (by decide) hd) a0 ha0 (g7 (a0 + 3) (v1.toInt.toNat)) g7) (fun r9 => ?_)
  refine y_iast (n := 6) (N := 6) (X := 3) (K := 3) (q := 54) rfl (shS13 ha0) rfl (by decide) ⟨by decide, by decide⟩ rfl rfl (fun g10 => ?_)
  refine y_aload_n (q := 55) rfl rfl rfl ?_
  refine y_getR (b := (a0 + 13)) (q := 58) rfl rfl (by decide) (shS ha0) rfl rfl ?_
  refine y_iconst (x := 4) (q := 59) rfl (by decide) rfl ?_
  refine y_aload_n (q := 60) rfl rfl rfl ?_
  refine y_getI (q := 63) rfl rfl (by decide) (shS ha0) rfl rfl ?_
  refine y_iast (n := 6) (N := 6) (X := 4) (K := 4) (q := 64) rfl (shS13 ha0) rfl (by decide) ⟨by decide, by decide⟩ rfl rfl (fun g11 => ?_)
  refine y_aload_n (q := 65) rfl rfl rfl ?_
  refine y_getR (b := (a0 + 13)) (q := 68) rfl rfl (by decide) (shS ha0) rfl rfl ?_
  refine y_iconst (x := 5) (q := 69) rfl (by decide) rfl ?_
  refine y_iload_n (q := 70) rfl rfl rfl ?_
  refine y_iload_n (q := 71) rfl rfl rfl ?_
  refine y_isub (q := 72) rfl rfl ?_
  refine y_abs (q := 75) rfl rfl (Nat.le_of_ble_eq_true rfl) rfl ?_
  refine y_iast (n := 6) (N := 6) (X := 5) (K := 5) (q := 76) rfl (shS13 ha0) rfl (by decide) ⟨by decide, by decide⟩ rfl rfl (fun g12 => ?_)
  exact y_retV rfl rfl rfl
def f_X5_joined (v0 : Int32) (v1 : Int32) (v2 : Int32) : Option (Int32) := if v0.toInt = (-12) then ((some (v1 - v2))) else (if v0.toInt = (-11) then ((some (v1 + v2))) else (if v0.toInt = (-10) then (if v1.toInt = v2.toInt then ((some 1)) else ((some 0))) else (if v0.toInt = (-9) then (if v1.toInt < v2.toInt then ((some 1)) else ((some 0))) else (if v0.toInt = (-8) then (if v1.toInt = 0 then ((some 0)) else (if v2.toInt = 0 then ((some 0)) else ((some 1)))) else (if v0.toInt = (-7) then (if v1.toInt = 0 then (if v2.toInt = 0 then ((some 0)) else ((some 1))) else ((some 1))) else ((some (v1 * v2))))))))
theorem m_X5_joined {d : Nat} (hd : 1 ≤ d) (v0 : Int32) (v1 : Int32) (v2 : Int32) (h : dH) : dX shC d 64 [.int v0, .int v1, .int v2] (dP h) (f_X5_joined v0 v1 v2) h := by
  obtain ⟨e, rfl⟩ : ∃ e, d = e + 1 := ⟨d - 1, by omega⟩
  have hd : 0 ≤ e := by omega
  refine dX_of (mj := mj64) (lo := [some (.int v0), some (.int v1), some (.int v2)]) rfl (Nat.le_of_ble_eq_true rfl) rfl ?_
  unfold f_X5_joined
  refine y_iload_n (q := 1) rfl rfl rfl ?_
  refine dY_ite (fun c1 => ?_) (fun c2 => ?_)
  · skip
    refine y_tabI (q := 94) (-12) rfl c1 (by decide) (by decide) rfl rfl ?_
    refine y_iload_n (q := 95) rfl rfl rfl ?_
    refine y_iload_n (q := 96) rfl rfl rfl ?_
    refine y_isub (q := 97) rfl rfl ?_
    exact y_retP rfl (by decide) rfl rfl
  refine dY_ite (fun c3 => ?_) (fun c4 => ?_)
  · skip
    refine y_tabI (q := 90) (-11) rfl c3 (by decide) (by decide) rfl rfl ?_
    refine y_iload_n (q := 91) rfl rfl rfl ?_
    refine y_iload_n (q := 92) rfl rfl rfl ?_
    refine y_iadd (q := 93) rfl rfl ?_
    exact y_retP rfl (by decide) rfl rfl
  refine dY_ite (fun c5 => ?_) (fun c6 => ?_)
  · skip
    refine y_tabI (q := 79) (-10) rfl c5 (by decide) (by decide) rfl rfl ?_
    refine y_iload_n (q := 80) rfl rfl rfl ?_
    refine y_iload_n (q := 81) rfl rfl rfl ?_
    refine y_ne (q := 88) (q' := 84) rfl rfl rfl rfl rfl (fun c7 => ?_) (fun c8 => ?_)
    · skip
      refine y_iconst (x := 1) (q := 85) rfl (by decide) rfl ?_
      refine y_goto (q := 89) rfl rfl ?_
      exact y_retP rfl (by decide) rfl rfl
    · skip
      refine y_iconst (x := 0) (q := 89) rfl (by decide) rfl ?_
      exact y_retP rfl (by decide) rfl rfl
  refine dY_ite (fun c9 => ?_) (fun c10 => ?_)
  · skip
    refine y_tabI (q := 68) (-9) rfl c9 (by decide) (by decide) rfl rfl ?_
    refine y_iload_n (q := 69) rfl rfl rfl ?_
    refine y_iload_n (q := 70) rfl rfl rfl ?_
    refine y_ge (q := 77) (q' := 73) rfl rfl rfl rfl rfl (fun c11 => ?_) (fun c12 => ?_)
    · skip
      refine y_iconst (x := 1) (q := 74) rfl (by decide) rfl ?_
      refine y_goto (q := 78) rfl rfl ?_
      exact y_retP rfl (by decide) rfl rfl
    · skip
      refine y_iconst (x := 0) (q := 78) rfl (by decide) rfl ?_
      exact y_retP rfl (by decide) rfl rfl
  refine dY_ite (fun c13 => ?_) (fun c14 => ?_)
  · skip
    refine y_tabI (q := 54) (-8) rfl c13 (by decide) (by decide) rfl rfl ?_
    refine y_iload_n (q := 55) rfl rfl rfl ?_
    refine y_eq0 (q := 66) (q' := 58) rfl rfl rfl rfl (fun c15 => ?_) (fun c16 => ?_)
    · skip
      refine y_iconst (x := 0) (q := 67) rfl (by decide) rfl ?_
      exact y_retP rfl (by decide) rfl rfl
    · skip
      refine y_iload_n (q := 59) rfl rfl rfl ?_
      refine y_eq0 (q := 66) (q' := 62) rfl rfl rfl rfl (fun c17 => ?_) (fun c18 => ?_)
      · skip
        refine y_iconst (x := 0) (q := 67) rfl (by decide) rfl ?_
        exact y_retP rfl (by decide) rfl rfl
      · skip
        refine y_iconst (x := 1) (q := 63) rfl (by decide) rfl ?_
        refine y_goto (q := 67) rfl rfl ?_
        exact y_retP rfl (by decide) rfl rfl
  refine dY_ite (fun c19 => ?_) (fun c20 => ?_)
  · skip
    refine y_tabI (q := 40) (-7) rfl c19 (by decide) (by decide) rfl rfl ?_
    refine y_iload_n (q := 41) rfl rfl rfl ?_
    refine y_ne0 (q := 48) (q' := 44) rfl rfl rfl rfl (fun c21 => ?_) (fun c22 => ?_)
    · skip
      refine y_iload_n (q := 45) rfl rfl rfl ?_
      refine y_eq0 (q := 52) (q' := 48) rfl rfl rfl rfl (fun c23 => ?_) (fun c24 => ?_)
      · skip
        refine y_iconst (x := 0) (q := 53) rfl (by decide) rfl ?_
        exact y_retP rfl (by decide) rfl rfl
      · skip
        refine y_iconst (x := 1) (q := 49) rfl (by decide) rfl ?_
        refine y_goto (q := 53) rfl rfl ?_
        exact y_retP rfl (by decide) rfl rfl
    · skip
      refine y_iconst (x := 1) (q := 49) rfl (by decide) rfl ?_
      refine y_goto (q := 53) rfl rfl ?_
      exact y_retP rfl (by decide) rfl rfl
  refine y_tabD (q := 98) rfl (by omega) rfl ?_
  refine y_iload_n (q := 99) rfl rfl rfl ?_
  refine y_iload_n (q := 100) rfl rfl rfl ?_
  refine y_imul (q := 101) rfl rfl ?_
  exact y_retP rfl (by decide) rfl rfl
def f_X5_turned (v0 : Int32) (v1 : Int32) : Option (Int32) := if v0.toInt = (-15) then ((some (-v1))) else (if v1.toInt = 0 then ((some 1)) else ((some 0)))
theorem m_X5_turned {d : Nat} (hd : 1 ≤ d) (v0 : Int32) (v1 : Int32) (h : dH) : dX shC d 63 [.int v0, .int v1] (dP h) (f_X5_turned v0 v1) h := by
  obtain ⟨e, rfl⟩ : ∃ e, d = e + 1 := ⟨d - 1, by omega⟩
  have hd : 0 ≤ e := by omega
  refine dX_of (mj := mj63) (lo := [some (.int v0), some (.int v1)]) rfl (Nat.le_of_ble_eq_true rfl) rfl ?_
  unfold f_X5_turned
  refine y_iload_n (q := 1) rfl rfl rfl ?_
  refine y_bipush (x := (-15)) (q := 3) rfl (by decide) rfl ?_
  refine y_ne (q := 9) (q' := 6) rfl rfl (by decide) rfl rfl (fun c1 => ?_) (fun c2 => ?_)
  · skip
    refine y_iload_n (q := 7) rfl rfl rfl ?_
    refine y_ineg (q := 8) rfl rfl ?_
    exact y_retP rfl (by decide) rfl rfl
  · skip
    refine y_iload_n (q := 10) rfl rfl rfl ?_
    refine y_ne0 (q := 17) (q' := 13) rfl rfl rfl rfl (fun c3 => ?_) (fun c4 => ?_)
    · skip
      refine y_iconst (x := 1) (q := 14) rfl (by decide) rfl ?_
      refine y_goto (q := 18) rfl rfl ?_
      exact y_retP rfl (by decide) rfl rfl
    · skip
      refine y_iconst (x := 0) (q := 18) rfl (by decide) rfl ?_
      exact y_retP rfl (by decide) rfl rfl
def l_X5_value_23 (a0 : Nat) (v1 : Int32) (a2 : Nat) (k : Int32 → dH → Option (Int32 × dH)) : Nat → Int32 → Int32 → dH → Option (Int32 × dH)
  | 0, _, _, _ => none
  | n + 1, v4, v5, h => if 0 ≤ v1.toInt ∧ v1.toInt < 3 then (if v5.toInt < (h (a0 + 2) (v1.toInt.toNat)).toInt then (if 0 ≤ v5.toInt ∧ v5.toInt < 160 then (if (h (a0 + 1) (v5.toInt.toNat)).toInt < (-6) then (if (-14) < (h (a0 + 1) (v5.toInt.toNat)).toInt then (if 1 < v4.toInt then (if 0 ≤ ((v4 + (-1)) - 1).toInt ∧ ((v4 + (-1)) - 1).toInt < 40 then (if 0 ≤ (v4 + (-1)).toInt ∧ (v4 + (-1)).toInt < 40 then (oP (f_X5_joined (h (a0 + 1) (v5.toInt.toNat)) (h (a0 + 3) (((v4 + (-1)) - 1).toInt.toNat)) (h (a0 + 3) ((v4 + (-1)).toInt.toNat))) (fun r15 => if 0 ≤ ((v4 + (-1)) - 1).toInt ∧ ((v4 + (-1)) - 1).toInt < 40 then (oH (dU h (a0 + 3) (((v4 + (-1)) - 1).toInt.toNat) r15) (fun g16 => l_X5_value_23 a0 v1 a2 k n (v4 + (-1)) (v5 + 1) g16)) else none)) else none) else none) else (l_X5_value_23 a0 v1 a2 k n v4 (v5 + 1) h)) else (if 0 < v4.toInt then (if 0 ≤ (v4 - 1).toInt ∧ (v4 - 1).toInt < 40 then (oP (f_X5_turned (h (a0 + 1) (v5.toInt.toNat)) (h (a0 + 3) ((v4 - 1).toInt.toNat))) (fun r21 => if 0 ≤ (v4 - 1).toInt ∧ (v4 - 1).toInt < 40 then (oH (dU h (a0 + 3) ((v4 - 1).toInt.toNat) r21) (fun g22 => l_X5_value_23 a0 v1 a2 k n v4 (v5 + 1) g22)) else none)) else none) else (l_X5_value_23 a0 v1 a2 k n v4 (v5 + 1) h))) else (if v4.toInt < 40 then (if (h (a0 + 1) (v5.toInt.toNat)).toInt < 0 then (if 0 ≤ ((-1) - (h (a0 + 1) (v5.toInt.toNat))).toInt ∧ ((-1) - (h (a0 + 1) (v5.toInt.toNat))).toInt < 6 then (if 0 ≤ v4.toInt ∧ v4.toInt < 40 then (oH (dU h (a0 + 3) (v4.toInt.toNat) (h a2 (((-1) - (h (a0 + 1) (v5.toInt.toNat))).toInt.toNat))) (fun g29 => l_X5_value_23 a0 v1 a2 k n (v4 + 1) (v5 + 1) g29)) else none) else none) else (if 0 ≤ v4.toInt ∧ v4.toInt < 40 then (oH (dU h (a0 + 3) (v4.toInt.toNat) (h (a0 + 1) (v5.toInt.toNat))) (fun g31 => l_X5_value_23 a0 v1 a2 k n (v4 + 1) (v5 + 1) g31)) else none)) else (l_X5_value_23 a0 v1 a2 k n v4 (v5 + 1) h))) else none) else (k v4 h)) else none
theorem lz_X5_value_23 {d : Nat} (hd : 1 ≤ d) (a0 : Nat) (ha0 : zT a0) (v1 : Int32) (a2 : Nat) (ha2 : zA shC a2 6) (v3 : Int32) (k : Int32 → dH → Option (Int32 × dH)) (hk : ∀ (v4 : Int32) (w5 : Int32) (z6 : Option Value) (h : dH), dY shC d mj62 dI (k v4 h) 169 [some (.ref a0), some (.int v1), some (.ref a2), some (.int v3), some (.int v4), some (.int w5), z6] [] h) : ∀ (n : Nat) (v4 : Int32) (v5 : Int32) (h : dH) (z6 : Option Value), dY shC d mj62 dI (l_X5_value_23 a0 v1 a2 k n v4 v5 h) 23 [some (.ref a0), some (.int v1), some (.ref a2), some (.int v3), some (.int v4), some (.int v5), z6] [] h
  | 0, _, _, _, _ => dY_none
  | n + 1, v4, v5, h, z6 => by
    rw [l_X5_value_23]
    refine y_iload (q := 25) rfl rfl rfl ?_
    refine y_aload_n (q := 26) rfl rfl rfl ?_
    refine y_getR (b := (a0 + 2)) (q := 29) rfl rfl (by decide) (shT ha0) rfl rfl ?_
    refine y_iload_n (q := 30) rfl rfl rfl ?_
    refine y_guard (fun c3 => ?_)
    refine y_iald (n := 3) (N := 3) (X := v1.toInt) (K := v1.toInt.toNat) (q := 31) hbC rfl (shT2 ha0) rfl rfl c3 rfl rfl ?_
    refine y_ge (q := 169) (q' := 34) rfl rfl rfl rfl rfl (fun c4 => ?_) (fun c5 => ?_)
    · skip
      refine y_aload_n (q := 35) rfl rfl rfl ?_
      refine y_getR (b := (a0 + 1)) (q := 38) rfl rfl (by decide) (shT ha0) rfl rfl ?_
      refine y_iload (q := 40) rfl rfl rfl ?_
      refine y_guard (fun c6 => ?_)
      refine y_iald (n := 160) (N := 160) (X := v5.toInt) (K := v5.toInt.toNat) (q := 41) hbC rfl (shT1 ha0) rfl rfl c6 rfl rfl ?_
      refine y_istore (lo' := [some (.ref a0), some (.int v1), some (.ref a2), some (.int v3), some (.int v4), some (.int v5), some (.int (h (a0 + 1) (v5.toInt.toNat)))]) (q := 43) rfl (Nat.le_of_ble_eq_true rfl) rfl rfl ?_
      refine y_iload (q := 45) rfl rfl rfl ?_
      refine y_bipush (x := (-6)) (q := 47) rfl (by decide) rfl ?_
      refine y_lt (q := 86) (q' := 50) rfl rfl (by decide) rfl rfl (fun c7 => ?_) (fun c8 => ?_)
      · skip
        refine y_iload (q := 88) rfl rfl rfl ?_
        refine y_bipush (x := (-14)) (q := 90) rfl (by decide) rfl ?_
        refine y_gt (q := 124) (q' := 93) rfl rfl (by decide) rfl rfl (fun c9 => ?_) (fun c10 => ?_)
        · skip
          refine y_iload (q := 126) rfl rfl rfl ?_
          refine y_iconst (x := 1) (q := 127) rfl (by decide) rfl ?_
          refine y_le (q := 163) (q' := 130) rfl rfl (by decide) rfl rfl (fun c11 => ?_) (fun c12 => ?_)
          · skip
            refine y_iinc (z := (v4 + (-1))) (lo' := [some (.ref a0), some (.int v1), some (.ref a2), some (.int v3), some (.int (v4 + (-1))), some (.int v5), some (.int (h (a0 + 1) (v5.toInt.toNat)))]) (q := 133) rfl rfl (Nat.le_of_ble_eq_true rfl) (by rw [oi_m1]) rfl rfl ?_
            refine y_aload_n (q := 134) rfl rfl rfl ?_
            refine y_getR (b := (a0 + 3)) (q := 137) rfl rfl (by decide) (shT ha0) rfl rfl ?_
            refine y_iload (q := 139) rfl rfl rfl ?_
            refine y_iconst (x := 1) (q := 140) rfl (by decide) rfl ?_
            refine y_isub (q := 141) rfl rfl ?_
            refine y_iload (q := 143) rfl rfl rfl ?_
            refine y_aload_n (q := 144) rfl rfl rfl ?_
            refine y_getR (b := (a0 + 3)) (q := 147) rfl rfl (by decide) (shT ha0) rfl rfl ?_
            refine y_iload (q := 149) rfl rfl rfl ?_
            refine y_iconst (x := 1) (q := 150) rfl (by decide) rfl ?_
            refine y_isub (q := 151) rfl rfl ?_
            refine y_guard (fun c13 => ?_)
            refine y_iald (n := 40) (N := 40) (X := ((v4 + (-1)) - 1).toInt) (K := ((v4 + (-1)) - 1).toInt.toNat) (q := 152) hbC rfl (shT3 ha0) rfl rfl c13 rfl rfl ?_
            refine y_aload_n (q := 153) rfl rfl rfl ?_
            refine y_getR (b := (a0 + 3)) (q := 156) rfl rfl (by decide) (shT ha0) rfl rfl ?_
            refine y_iload (q := 158) rfl rfl rfl ?_
            refine y_guard (fun c14 => ?_)
            refine y_iald (n := 40) (N := 40) (X := (v4 + (-1)).toInt) (K := (v4 + (-1)).toInt.toNat) (q := 159) hbC rfl (shT3 ha0) rfl rfl c14 rfl rfl ?_
            refine y_callP (I := .invokestatic 32) (idx := 32) (KD := 0) (J := 74) (mj := mj64) (as := [.int (h (a0 + 1) (v5.toInt.toNat)), .int (h (a0 + 3) (((v4 + (-1)) - 1).toInt.toNat)), .int (h (a0 + 3) ((v4 + (-1)).toInt.toNat))]) (r := [.int ((v4 + (-1)) - 1), .ref (a0 + 3)]) (q := 162) rfl (fun _ _ _ _ _ _ => rfl) rfl (by decide) rfl rfl rfl rfl rfl (Nat.le_of_ble_eq_true rfl) rfl rfl (m_X5_joined (Nat.le_trans (by decide) hd) (h (a0 + 1) (v5.toInt.toNat)) (h (a0 + 3) (((v4 + (-1)) - 1).toInt.toNat)) (h (a0 + 3) ((v4 + (-1)).toInt.toNat)) h) (fun r15 => ?_)
            refine y_guard (fun c17 => ?_)
            refine y_iast (n := 40) (N := 40) (X := ((v4 + (-1)) - 1).toInt) (K := ((v4 + (-1)) - 1).toInt.toNat) (q := 163) rfl (shT3 ha0) rfl rfl c17 rfl rfl (fun g16 => ?_)
            refine y_iinc (z := (v5 + 1)) (lo' := [some (.ref a0), some (.int v1), some (.ref a2), some (.int v3), some (.int (v4 + (-1))), some (.int (v5 + 1)), some (.int (h (a0 + 1) (v5.toInt.toNat)))]) (q := 166) rfl rfl (Nat.le_of_ble_eq_true rfl) (by rw [oi_1]) rfl rfl ?_
            refine y_goto (q := 23) rfl rfl ?_
            exact lz_X5_value_23 hd a0 ha0 v1 a2 ha2 v3 k hk n (v4 + (-1)) (v5 + 1) g16 (some (.int (h (a0 + 1) (v5.toInt.toNat))))
          · skip
            refine y_iinc (z := (v5 + 1)) (lo' := [some (.ref a0), some (.int v1), some (.ref a2), some (.int v3), some (.int v4), some (.int (v5 + 1)), some (.int (h (a0 + 1) (v5.toInt.toNat)))]) (q := 166) rfl rfl (Nat.le_of_ble_eq_true rfl) (by rw [oi_1]) rfl rfl ?_
            refine y_goto (q := 23) rfl rfl ?_
            exact lz_X5_value_23 hd a0 ha0 v1 a2 ha2 v3 k hk n v4 (v5 + 1) h (some (.int (h (a0 + 1) (v5.toInt.toNat))))
        · skip
          refine y_iload (q := 95) rfl rfl rfl ?_
          refine y_le0 (q := 163) (q' := 98) rfl rfl rfl rfl (fun c18 => ?_) (fun c19 => ?_)
          · skip
            refine y_aload_n (q := 99) rfl rfl rfl ?_
            refine y_getR (b := (a0 + 3)) (q := 102) rfl rfl (by decide) (shT ha0) rfl rfl ?_
            refine y_iload (q := 104) rfl rfl rfl ?_
            refine y_iconst (x := 1) (q := 105) rfl (by decide) rfl ?_
            refine y_isub (q := 106) rfl rfl ?_
            refine y_iload (q := 108) rfl rfl rfl ?_
            refine y_aload_n (q := 109) rfl rfl rfl ?_
            refine y_getR (b := (a0 + 3)) (q := 112) rfl rfl (by decide) (shT ha0) rfl rfl ?_
            refine y_iload (q := 114) rfl rfl rfl ?_
            refine y_iconst (x := 1) (q := 115) rfl (by decide) rfl ?_
            refine y_isub (q := 116) rfl rfl ?_
            refine y_guard (fun c20 => ?_)
            refine y_iald (n := 40) (N := 40) (X := (v4 - 1).toInt) (K := (v4 - 1).toInt.toNat) (q := 117) hbC rfl (shT3 ha0) rfl rfl c20 rfl rfl ?_
            refine y_callP (I := .invokestatic 28) (idx := 28) (KD := 0) (J := 73) (mj := mj63) (as := [.int (h (a0 + 1) (v5.toInt.toNat)), .int (h (a0 + 3) ((v4 - 1).toInt.toNat))]) (r := [.int (v4 - 1), .ref (a0 + 3)]) (q := 120) rfl (fun _ _ _ _ _ _ => rfl) rfl (by decide) rfl rfl rfl rfl rfl (Nat.le_of_ble_eq_true rfl) rfl rfl (m_X5_turned (Nat.le_trans (by decide) hd) (h (a0 + 1) (v5.toInt.toNat)) (h (a0 + 3) ((v4 - 1).toInt.toNat)) h) (fun r21 => ?_)
            refine y_guard (fun c23 => ?_)
            refine y_iast (n := 40) (N := 40) (X := (v4 - 1).toInt) (K := (v4 - 1).toInt.toNat) (q := 121) rfl (shT3 ha0) rfl rfl c23 rfl rfl (fun g22 => ?_)
            refine y_goto (q := 163) rfl rfl ?_
            refine y_iinc (z := (v5 + 1)) (lo' := [some (.ref a0), some (.int v1), some (.ref a2), some (.int v3), some (.int v4), some (.int (v5 + 1)), some (.int (h (a0 + 1) (v5.toInt.toNat)))]) (q := 166) rfl rfl (Nat.le_of_ble_eq_true rfl) (by rw [oi_1]) rfl rfl ?_
            refine y_goto (q := 23) rfl rfl ?_
            exact lz_X5_value_23 hd a0 ha0 v1 a2 ha2 v3 k hk n v4 (v5 + 1) g22 (some (.int (h (a0 + 1) (v5.toInt.toNat))))
          · skip
            refine y_iinc (z := (v5 + 1)) (lo' := [some (.ref a0), some (.int v1), some (.ref a2), some (.int v3), some (.int v4), some (.int (v5 + 1)), some (.int (h (a0 + 1) (v5.toInt.toNat)))]) (q := 166) rfl rfl (Nat.le_of_ble_eq_true rfl) (by rw [oi_1]) rfl rfl ?_
            refine y_goto (q := 23) rfl rfl ?_
            exact lz_X5_value_23 hd a0 ha0 v1 a2 ha2 v3 k hk n v4 (v5 + 1) h (some (.int (h (a0 + 1) (v5.toInt.toNat))))
      · skip
        refine y_iload (q := 52) rfl rfl rfl ?_
        refine y_bipush (x := 40) (q := 54) rfl (by decide) rfl ?_
        refine y_ge (q := 163) (q' := 57) rfl rfl (by decide) rfl rfl (fun c24 => ?_) (fun c25 => ?_)
        · skip
          refine y_aload_n (q := 58) rfl rfl rfl ?_
          refine y_getR (b := (a0 + 3)) (q := 61) rfl rfl (by decide) (shT ha0) rfl rfl ?_
          refine y_iload (q := 63) rfl rfl rfl ?_
          refine y_iload (q := 65) rfl rfl rfl ?_
          refine y_lt0 (q := 73) (q' := 68) rfl rfl rfl rfl (fun c26 => ?_) (fun c27 => ?_)
          · skip
            refine y_aload_n (q := 74) rfl rfl rfl ?_
            refine y_iconst (x := (-1)) (q := 75) rfl (by decide) rfl ?_
            refine y_iload (q := 77) rfl rfl rfl ?_
            refine y_isub (q := 78) rfl rfl ?_
            refine y_guard (fun c28 => ?_)
            refine y_iald (n := 6) (N := 6) (X := ((-1) - (h (a0 + 1) (v5.toInt.toNat))).toInt) (K := ((-1) - (h (a0 + 1) (v5.toInt.toNat))).toInt.toNat) (q := 79) hbC rfl ha2 rfl rfl c28 rfl rfl ?_
            refine y_guard (fun c30 => ?_)
            refine y_iast (n := 40) (N := 40) (X := v4.toInt) (K := v4.toInt.toNat) (q := 80) rfl (shT3 ha0) rfl rfl c30 rfl rfl (fun g29 => ?_)
            refine y_iinc (z := (v4 + 1)) (lo' := [some (.ref a0), some (.int v1), some (.ref a2), some (.int v3), some (.int (v4 + 1)), some (.int v5), some (.int (h (a0 + 1) (v5.toInt.toNat)))]) (q := 83) rfl rfl (Nat.le_of_ble_eq_true rfl) (by rw [oi_1]) rfl rfl ?_
            refine y_goto (q := 163) rfl rfl ?_
            refine y_iinc (z := (v5 + 1)) (lo' := [some (.ref a0), some (.int v1), some (.ref a2), some (.int v3), some (.int (v4 + 1)), some (.int (v5 + 1)), some (.int (h (a0 + 1) (v5.toInt.toNat)))]) (q := 166) rfl rfl (Nat.le_of_ble_eq_true rfl) (by rw [oi_1]) rfl rfl ?_
            refine y_goto (q := 23) rfl rfl ?_
            exact lz_X5_value_23 hd a0 ha0 v1 a2 ha2 v3 k hk n (v4 + 1) (v5 + 1) g29 (some (.int (h (a0 + 1) (v5.toInt.toNat))))
          · skip
            refine y_iload (q := 70) rfl rfl rfl ?_
            refine y_goto (q := 79) rfl rfl ?_
            refine y_guard (fun c32 => ?_)
            refine y_iast (n := 40) (N := 40) (X := v4.toInt) (K := v4.toInt.toNat) (q := 80) rfl (shT3 ha0) rfl rfl c32 rfl rfl (fun g31 => ?_)
            refine y_iinc (z := (v4 + 1)) (lo' := [some (.ref a0), some (.int v1), some (.ref a2), some (.int v3), some (.int (v4 + 1)), some (.int v5), some (.int (h (a0 + 1) (v5.toInt.toNat)))]) (q := 83) rfl rfl (Nat.le_of_ble_eq_true rfl) (by rw [oi_1]) rfl rfl ?_
            refine y_goto (q := 163) rfl rfl ?_
            refine y_iinc (z := (v5 + 1)) (lo' := [some (.ref a0), some (.int v1), some (.ref a2), some (.int v3), some (.int (v4 + 1)), some (.int (v5 + 1)), some (.int (h (a0 + 1) (v5.toInt.toNat)))]) (q := 166) rfl rfl (Nat.le_of_ble_eq_true rfl) (by rw [oi_1]) rfl rfl ?_
            refine y_goto (q := 23) rfl rfl ?_
            exact lz_X5_value_23 hd a0 ha0 v1 a2 ha2 v3 k hk n (v4 + 1) (v5 + 1) g31 (some (.int (h (a0 + 1) (v5.toInt.toNat))))
        · skip
          refine y_iinc (z := (v5 + 1)) (lo' := [some (.ref a0), some (.int v1), some (.ref a2), some (.int v3), some (.int v4), some (.int (v5 + 1)), some (.int (h (a0 + 1) (v5.toInt.toNat)))]) (q := 166) rfl rfl (Nat.le_of_ble_eq_true rfl) (by rw [oi_1]) rfl rfl ?_
          refine y_goto (q := 23) rfl rfl ?_
          exact lz_X5_value_23 hd a0 ha0 v1 a2 ha2 v3 k hk n v4 (v5 + 1) h (some (.int (h (a0 + 1) (v5.toInt.toNat))))
    · skip
      exact hk v4 v5 (z6) h
def f_X5_value (a0 : Nat) (v1 : Int32) (a2 : Nat) (h : dH) : Option (Int32 × dH) := if v1.toInt = 0 then (l_X5_value_23 a0 v1 a2  (fun v4_33 g36 => if 0 < v4_33.toInt then (some ((dmax 0 (dmin 60 (g36 (a0 + 3) 0))), g36)) else (some (0, g36))) fuel0 0 0 h) else (if 0 ≤ (v1 - 1).toInt ∧ (v1 - 1).toInt < 3 then (l_X5_value_23 a0 v1 a2  (fun v4_40 g43 => if 0 < v4_40.toInt then (some ((dmax 0 (dmin 60 (g43 (a0 + 3) 0))), g43)) else (some (0, g43))) fuel0 0 (h (a0 + 2) ((v1 - 1).toInt.toNat)) h) else none)
theorem m_X5_value {d : Nat} (hd : 2 ≤ d) (a0 : Nat) (ha0 : zT a0) (v1 : Int32) (a2 : Nat) (ha2 : zA shC a2 6) (h : dH) : dX shC d 62 [.ref a0, .int v1, .ref a2] dI (f_X5_value a0 v1 a2 h) h := by
  obtain ⟨e, rfl⟩ : ∃ e, d = e + 1 := ⟨d - 1, by omega⟩
  have hd : 1 ≤ e := by omega
  refine dX_of (mj := mj62) (lo := [some (.ref a0), some (.int v1), some (.ref a2), none, none, none, none]) rfl (Nat.le_of_ble_eq_true rfl) rfl ?_
  unfold f_X5_value
  refine y_iload_n (q := 1) rfl rfl rfl ?_
  refine y_ne0 (q := 8) (q' := 4) rfl rfl rfl rfl (fun c1 => ?_) (fun c2 => ?_)
  · skip
    refine y_iconst (x := 0) (q := 5) rfl (by decide) rfl ?_
    refine y_goto (q := 16) rfl rfl ?_
    refine y_istore_n (lo' := [some (.ref a0), some (.int v1), some (.ref a2), some (.int 0), none, none, none]) (q := 17) rfl (Nat.le_of_ble_eq_true rfl) rfl rfl ?_
    refine y_iconst (x := 0) (q := 18) rfl (by decide) rfl ?_
    refine y_istore (lo' := [some (.ref a0), some (.int v1), some (.ref a2), some (.int 0), some (.int 0), none, none]) (q := 20) rfl (Nat.le_of_ble_eq_true rfl) rfl rfl ?_
    refine y_iload_n (q := 21) rfl rfl rfl ?_
    refine y_istore (lo' := [some (.ref a0), some (.int v1), some (.ref a2), some (.int 0), some (.int 0), some (.int 0), none]) (q := 23) rfl (Nat.le_of_ble_eq_true rfl) rfl rfl ?_
    refine lz_X5_value_23 hd a0 ha0 v1 a2 ha2 0  _ (fun v4_33 z34 z35 g36 => ?_) fuel0 0 0 h (none)
    refine y_iload (q := 171) rfl rfl rfl ?_
    refine y_le0 (q := 192) (q' := 174) rfl rfl rfl rfl (fun c37 => ?_) (fun c38 => ?_)
    · skip
      refine y_iconst (x := 0) (q := 175) rfl (by decide) rfl ?_
      refine y_bipush (x := 60) (q := 177) rfl (by decide) rfl ?_
      refine y_aload_n (q := 178) rfl rfl rfl ?_
      refine y_getR (b := (a0 + 3)) (q := 181) rfl rfl (by decide) (shT ha0) rfl rfl ?_
      refine y_iconst (x := 0) (q := 182) rfl (by decide) rfl ?_
      refine y_iald (n := 40) (N := 40) (X := 0) (K := 0) (q := 183) hbC rfl (shT3 ha0) rfl (by decide) ⟨by decide, by decide⟩ rfl rfl ?_
      refine y_min (q := 186) rfl rfl (Nat.le_of_ble_eq_true rfl) rfl ?_
      refine y_max (q := 189) rfl rfl (Nat.le_of_ble_eq_true rfl) rfl ?_
      refine y_goto (q := 193) rfl rfl ?_
      exact y_retI rfl (by decide) rfl rfl
    · skip
      refine y_iconst (x := 0) (q := 193) rfl (by decide) rfl ?_
      exact y_retI rfl (by decide) rfl rfl
  · skip
    refine y_aload_n (q := 9) rfl rfl rfl ?_
    refine y_getR (b := (a0 + 2)) (q := 12) rfl rfl (by decide) (shT ha0) rfl rfl ?_
    refine y_iload_n (q := 13) rfl rfl rfl ?_
    refine y_iconst (x := 1) (q := 14) rfl (by decide) rfl ?_
    refine y_isub (q := 15) rfl rfl ?_
    refine y_guard (fun c39 => ?_)
    refine y_iald (n := 3) (N := 3) (X := (v1 - 1).toInt) (K := (v1 - 1).toInt.toNat) (q := 16) hbC rfl (shT2 ha0) rfl rfl c39 rfl rfl ?_
    refine y_istore_n (lo' := [some (.ref a0), some (.int v1), some (.ref a2), some (.int (h (a0 + 2) ((v1 - 1).toInt.toNat))), none, none, none]) (q := 17) rfl (Nat.le_of_ble_eq_true rfl) rfl rfl ?_
    refine y_iconst (x := 0) (q := 18) rfl (by decide) rfl ?_
    refine y_istore (lo' := [some (.ref a0), some (.int v1), some (.ref a2), some (.int (h (a0 + 2) ((v1 - 1).toInt.toNat))), some (.int 0), none, none]) (q := 20) rfl (Nat.le_of_ble_eq_true rfl) rfl rfl ?_
    refine y_iload_n (q := 21) rfl rfl rfl ?_
    refine y_istore (lo' := [some (.ref a0), some (.int v1), some (.ref a2), some (.int (h (a0 + 2) ((v1 - 1).toInt.toNat))), some (.int 0), some (.int (h (a0 + 2) ((v1 - 1).toInt.toNat))), none]) (q := 23) rfl (Nat.le_of_ble_eq_true rfl) rfl rfl ?_
    refine lz_X5_value_23 hd a0 ha0 v1 a2 ha2 (h (a0 + 2) ((v1 - 1).toInt.toNat))  _ (fun v4_40 z41 z42 g43 => ?_) fuel0 0 (h (a0 + 2) ((v1 - 1).toInt.toNat)) h (none)
    refine y_iload (q := 171) rfl rfl rfl ?_
    refine y_le0 (q := 192) (q' := 174) rfl rfl rfl rfl (fun c44 => ?_) (fun c45 => ?_)
    · skip
      refine y_iconst (x := 0) (q := 175) rfl (by decide) rfl ?_
      refine y_bipush (x := 60) (q := 177) rfl (by decide) rfl ?_
      refine y_aload_n (q := 178) rfl rfl rfl ?_
      refine y_getR (b := (a0 + 3)) (q := 181) rfl rfl (by decide) (shT ha0) rfl rfl ?_
      refine y_iconst (x := 0) (q := 182) rfl (by decide) rfl ?_
      refine y_iald (n := 40) (N := 40) (X := 0) (K := 0) (q := 183) hbC rfl (shT3 ha0) rfl (by decide) ⟨by decide, by decide⟩ rfl rfl ?_
      refine y_min (q := 186) rfl rfl (Nat.le_of_ble_eq_true rfl) rfl ?_
      refine y_max (q := 189) rfl rfl (Nat.le_of_ble_eq_true rfl) rfl ?_
      refine y_goto (q := 193) rfl rfl ?_
      exact y_retI rfl (by decide) rfl rfl
    · skip
      refine y_iconst (x := 0) (q := 193) rfl (by decide) rfl ?_
      exact y_retI rfl (by decide) rfl rfl
def f_X3_meets (a0 : Nat) (v1 : Int32) (v2 : Int32) (h : dH) : Option (Int32 × dH) := oV (f_X3_look a0 v1 v2 h) (fun g1 => oI (f_X5_value (dtx (g1 a0 3)) 0 (a0 + 13) g1) (fun r2 g3 => if 0 ≤ v1.toInt ∧ v1.toInt < 8 then (if (g3 (a0 + 1) (v1.toInt.toNat)).toInt = 1 then (some ((2 * r2), g3)) else (if (g3 (a0 + 1) (v1.toInt.toNat)).toInt = 2 then (some ((r2 / 2), g3)) else (if (g3 (a0 + 1) (v1.toInt.toNat)).toInt = 3 then (if 0 ≤ v1.toInt ∧ v1.toInt < 8 then (some (((2 * r2) + (g3 (a0 + 2) (v1.toInt.toNat))), g3)) else none) else (if (g3 (a0 + 1) (v1.toInt.toNat)).toInt = 4 then (if 2 < (g3 (a0 + 13) 5).toInt then (some (0, g3)) else (some ((r2 / 2), g3))) else (if (g3 (a0 + 1) (v1.toInt.toNat)).toInt = 5 then (some (3, g3)) else (some (r2, g3))))))) else none))
theorem m_X3_meets {d : Nat} (hd : 3 ≤ d) (a0 : Nat) (ha0 : zS a0) (v1 : Int32) (v2 : Int32) (h : dH) : dX shC d 37 [.ref a0, .int v1, .int v2] dI (f_X3_meets a0 v1 v2 h) h := by
  obtain ⟨e, rfl⟩ : ∃ e, d = e + 1 := ⟨d - 1, by omega⟩
  have hd : 2 ≤ e := by omega
  refine dX_of (mj := mj37) (lo := [some (.ref a0), some (.int v1), some (.int v2), none]) rfl (Nat.le_of_ble_eq_true rfl) rfl ?_
  unfold f_X3_meets
  refine y_aload_n (q := 1) rfl rfl rfl ?_
  refine y_iload_n (q := 2) rfl rfl rfl ?_
  refine y_iload_n (q := 3) rfl rfl rfl ?_
  refine y_callV (I := .invokevirtual 59) (idx := 59) (KD := 1) (J := 50) (mj := mj40) (as := [.ref a0, .int v1, .int v2]) (r := []) (q := 6) rfl (fun _ _ _ _ _ _ => rfl) rfl (by decide) rfl rfl rfl rfl rfl (Nat.le_of_ble_eq_true rfl) (d_recv (shS ha0) (by decide) (by decide)) rfl (m_X3_look (Nat.le_trans (by decide) hd) a0 ha0 v1 v2 h) (fun g1 => ?_)
  refine y_aload_n (q := 7) rfl rfl rfl ?_
  refine y_getT (q := 10) rfl rfl (by decide) (shS ha0) rfl rfl ?_
  refine y_iconst (x := 0) (q := 11) rfl (by decide) rfl ?_
  refine y_aload_n (q := 12) rfl rfl rfl ?_
  refine y_getR (b := (a0 + 13)) (q := 15) rfl rfl (by decide) (shS ha0) rfl rfl ?_
  refine y_callI (I := .invokevirtual 63) (idx := 63) (KD := 1) (J := 72) (mj := mj62) (as := [.ref (dtx (g1 a0 3)), .int 0, .ref (a0 + 13)]) (r := []) (q := 18) rfl (fun _ _ _ _ _ _ => rfl) rfl (by decide) rfl rfl rfl rfl rfl (Nat.le_of_ble_eq_true rfl) (d_recv (shT (zT_dtx _)) (by decide) (by decide)) rfl (m_X5_value (Nat.le_trans (by decide) hd) (dtx (g1 a0 3)) (zT_dtx _) 0 (a0 + 13) (shS13 ha0) g1) (fun r2 g3 => ?_)
  refine y_istore_n (lo' := [some (.ref a0), some (.int v1), some (.int v2), some (.int r2)]) (q := 19) rfl (Nat.le_of_ble_eq_true rfl) rfl rfl ?_
  refine y_aload_n (q := 20) rfl rfl rfl ?_
  refine y_getR (b := (a0 + 1)) (q := 23) rfl rfl (by decide) (shS ha0) rfl rfl ?_
  refine y_iload_n (q := 24) rfl rfl rfl ?_
  refine y_guard (fun c4 => ?_)
  refine y_iald (n := 8) (N := 8) (X := v1.toInt) (K := v1.toInt.toNat) (q := 25) hbC rfl (shS1 ha0) rfl rfl c4 rfl rfl ?_
  refine dY_ite (fun c5 => ?_) (fun c6 => ?_)
  · skip
    refine y_tabI (q := 60) 1 rfl c5 (by decide) (by decide) rfl rfl ?_
    refine y_iconst (x := 2) (q := 61) rfl (by decide) rfl ?_
    refine y_iload_n (q := 62) rfl rfl rfl ?_
    refine y_imul (q := 63) rfl rfl ?_
    exact y_retI rfl (by decide) rfl rfl
  refine dY_ite (fun c7 => ?_) (fun c8 => ?_)
  · skip
    refine y_tabI (q := 64) 2 rfl c7 (by decide) (by decide) rfl rfl ?_
    refine y_iload_n (q := 65) rfl rfl rfl ?_
    refine y_iconst (x := 2) (q := 66) rfl (by decide) rfl ?_
    refine y_idiv (q := 67) rfl (by decide) rfl ?_
    exact y_retI rfl (by decide) rfl rfl
  refine dY_ite (fun c9 => ?_) (fun c10 => ?_)
  · skip
    refine y_tabI (q := 68) 3 rfl c9 (by decide) (by decide) rfl rfl ?_
    refine y_iconst (x := 2) (q := 69) rfl (by decide) rfl ?_
    refine y_iload_n (q := 70) rfl rfl rfl ?_
    refine y_imul (q := 71) rfl rfl ?_
    refine y_aload_n (q := 72) rfl rfl rfl ?_
    refine y_getR (b := (a0 + 2)) (q := 75) rfl rfl (by decide) (shS ha0) rfl rfl ?_
    refine y_iload_n (q := 76) rfl rfl rfl ?_
    refine y_guard (fun c11 => ?_)
    refine y_iald (n := 8) (N := 8) (X := v1.toInt) (K := v1.toInt.toNat) (q := 77) hbC rfl (shS2 ha0) rfl rfl c11 rfl rfl ?_
    refine y_iadd (q := 78) rfl rfl ?_
    exact y_retI rfl (by decide) rfl rfl
  refine dY_ite (fun c12 => ?_) (fun c13 => ?_)
  · skip
    refine y_tabI (q := 79) 4 rfl c12 (by decide) (by decide) rfl rfl ?_
    refine y_aload_n (q := 80) rfl rfl rfl ?_
    refine y_getR (b := (a0 + 13)) (q := 83) rfl rfl (by decide) (shS ha0) rfl rfl ?_
    refine y_iconst (x := 5) (q := 84) rfl (by decide) rfl ?_
    refine y_iald (n := 6) (N := 6) (X := 5) (K := 5) (q := 85) hbC rfl (shS13 ha0) rfl (by decide) ⟨by decide, by decide⟩ rfl rfl ?_
    refine y_iconst (x := 2) (q := 86) rfl (by decide) rfl ?_
    refine y_le (q := 93) (q' := 89) rfl rfl (by decide) rfl rfl (fun c14 => ?_) (fun c15 => ?_)
    · skip
      refine y_iconst (x := 0) (q := 90) rfl (by decide) rfl ?_
      refine y_goto (q := 96) rfl rfl ?_
      exact y_retI rfl (by decide) rfl rfl
    · skip
      refine y_iload_n (q := 94) rfl rfl rfl ?_
      refine y_iconst (x := 2) (q := 95) rfl (by decide) rfl ?_
      refine y_idiv (q := 96) rfl (by decide) rfl ?_
      exact y_retI rfl (by decide) rfl rfl
  refine dY_ite (fun c16 => ?_) (fun c17 => ?_)
  · skip
    refine y_tabI (q := 97) 5 rfl c16 (by decide) (by decide) rfl rfl ?_
    refine y_iconst (x := 3) (q := 98) rfl (by decide) rfl ?_
    exact y_retI rfl (by decide) rfl rfl
  refine y_tabD (q := 99) rfl (by omega) rfl ?_
  refine y_iload_n (q := 100) rfl rfl rfl ?_
  exact y_retI rfl (by decide) rfl rfl
def f_X3_forgets (a0 : Nat) (v1 : Int32) (v2 : Int32) (h : dH) : Option (Int32 × dH) := oV (f_X3_look a0 v1 v2 h) (fun g1 => oI (f_X5_value (dtx (g1 a0 3)) 1 (a0 + 13) g1) (fun r2 g3 => if 0 ≤ v1.toInt ∧ v1.toInt < 8 then (if (g3 (a0 + 1) (v1.toInt.toNat)).toInt = 1 then (some ((r2 + 1), g3)) else (if (g3 (a0 + 1) (v1.toInt.toNat)).toInt = 2 then (some ((r2 / 2), g3)) else (if (g3 (a0 + 1) (v1.toInt.toNat)).toInt = 3 then (some ((2 * (r2 + 1)), g3)) else (if (g3 (a0 + 1) (v1.toInt.toNat)).toInt = 4 then (if (drem (g3 a0 0) 2).toInt = 0 then (some (0, g3)) else (some ((r2 / 2), g3))) else (some (r2, g3)))))) else none))
theorem m_X3_forgets {d : Nat} (hd : 3 ≤ d) (a0 : Nat) (ha0 : zS a0) (v1 : Int32) (v2 : Int32) (h : dH) : dX shC d 38 [.ref a0, .int v1, .int v2] dI (f_X3_forgets a0 v1 v2 h) h := by
  obtain ⟨e, rfl⟩ : ∃ e, d = e + 1 := ⟨d - 1, by omega⟩
  have hd : 2 ≤ e := by omega
  refine dX_of (mj := mj38) (lo := [some (.ref a0), some (.int v1), some (.int v2), none]) rfl (Nat.le_of_ble_eq_true rfl) rfl ?_
  unfold f_X3_forgets
  refine y_aload_n (q := 1) rfl rfl rfl ?_
  refine y_iload_n (q := 2) rfl rfl rfl ?_
  refine y_iload_n (q := 3) rfl rfl rfl ?_
  refine y_callV (I := .invokevirtual 59) (idx := 59) (KD := 1) (J := 50) (mj := mj40) (as := [.ref a0, .int v1, .int v2]) (r := []) (q := 6) rfl (fun _ _ _ _ _ _ => rfl) rfl (by decide) rfl rfl rfl rfl rfl (Nat.le_of_ble_eq_true rfl) (d_recv (shS ha0) (by decide) (by decide)) rfl (m_X3_look (Nat.le_trans (by decide) hd) a0 ha0 v1 v2 h) (fun g1 => ?_)
  refine y_aload_n (q := 7) rfl rfl rfl ?_
  refine y_getT (q := 10) rfl rfl (by decide) (shS ha0) rfl rfl ?_
  refine y_iconst (x := 1) (q := 11) rfl (by decide) rfl ?_
  refine y_aload_n (q := 12) rfl rfl rfl ?_
  refine y_getR (b := (a0 + 13)) (q := 15) rfl rfl (by decide) (shS ha0) rfl rfl ?_
  refine y_callI (I := .invokevirtual 63) (idx := 63) (KD := 1) (J := 72) (mj := mj62) (as := [.ref (dtx (g1 a0 3)), .int 1, .ref (a0 + 13)]) (r := []) (q := 18) rfl (fun _ _ _ _ _ _ => rfl) rfl (by decide) rfl rfl rfl rfl rfl (Nat.le_of_ble_eq_true rfl) (d_recv (shT (zT_dtx _)) (by decide) (by decide)) rfl (m_X5_value (Nat.le_trans (by decide) hd) (dtx (g1 a0 3)) (zT_dtx _) 1 (a0 + 13) (shS13 ha0) g1) (fun r2 g3 => ?_)
  refine y_istore_n (lo' := [some (.ref a0), some (.int v1), some (.int v2), some (.int r2)]) (q := 19) rfl (Nat.le_of_ble_eq_true rfl) rfl rfl ?_
  refine y_aload_n (q := 20) rfl rfl rfl ?_
  refine y_getR (b := (a0 + 1)) (q := 23) rfl rfl (by decide) (shS ha0) rfl rfl ?_
  refine y_iload_n (q := 24) rfl rfl rfl ?_
  refine y_guard (fun c4 => ?_)
  refine y_iald (n := 8) (N := 8) (X := v1.toInt) (K := v1.toInt.toNat) (q := 25) hbC rfl (shS1 ha0) rfl rfl c4 rfl rfl ?_
  refine dY_ite (fun c5 => ?_) (fun c6 => ?_)
  · skip
    refine y_tabI (q := 56) 1 rfl c5 (by decide) (by decide) rfl rfl ?_
    refine y_iload_n (q := 57) rfl rfl rfl ?_
    refine y_iconst (x := 1) (q := 58) rfl (by decide) rfl ?_
    refine y_iadd (q := 59) rfl rfl ?_
    exact y_retI rfl (by decide) rfl rfl
  refine dY_ite (fun c7 => ?_) (fun c8 => ?_)
  · skip
    refine y_tabI (q := 60) 2 rfl c7 (by decide) (by decide) rfl rfl ?_
    refine y_iload_n (q := 61) rfl rfl rfl ?_
    refine y_iconst (x := 2) (q := 62) rfl (by decide) rfl ?_
    refine y_idiv (q := 63) rfl (by decide) rfl ?_
    exact y_retI rfl (by decide) rfl rfl
  refine dY_ite (fun c9 => ?_) (fun c10 => ?_)
  · skip
    refine y_tabI (q := 64) 3 rfl c9 (by decide) (by decide) rfl rfl ?_
    refine y_iconst (x := 2) (q := 65) rfl (by decide) rfl ?_
    refine y_iload_n (q := 66) rfl rfl rfl ?_
    refine y_iconst (x := 1) (q := 67) rfl (by decide) rfl ?_
    refine y_iadd (q := 68) rfl rfl ?_
    refine y_imul (q := 69) rfl rfl ?_
    exact y_retI rfl (by decide) rfl rfl
  refine dY_ite (fun c11 => ?_) (fun c12 => ?_)
  · skip
    refine y_tabI (q := 70) 4 rfl c11 (by decide) (by decide) rfl rfl ?_
    refine y_aload_n (q := 71) rfl rfl rfl ?_
    refine y_getI (q := 74) rfl rfl (by decide) (shS ha0) rfl rfl ?_
    refine y_iconst (x := 2) (q := 75) rfl (by decide) rfl ?_
    refine y_irem (q := 76) rfl (by decide) rfl ?_
    refine y_ne0 (q := 83) (q' := 79) rfl rfl rfl rfl (fun c13 => ?_) (fun c14 => ?_)
    · skip
      refine y_iconst (x := 0) (q := 80) rfl (by decide) rfl ?_
      refine y_goto (q := 86) rfl rfl ?_
      exact y_retI rfl (by decide) rfl rfl
    · skip
      refine y_iload_n (q := 84) rfl rfl rfl ?_
      refine y_iconst (x := 2) (q := 85) rfl (by decide) rfl ?_
      refine y_idiv (q := 86) rfl (by decide) rfl ?_
      exact y_retI rfl (by decide) rfl rfl
  refine y_tabD (q := 87) rfl (by omega) rfl ?_
  refine y_iload_n (q := 88) rfl rfl rfl ?_
  exact y_retI rfl (by decide) rfl rfl
def f_X3_sounds (a0 : Nat) (v1 : Int32) (h : dH) : Option (Int32 × dH) := oV (f_X3_look a0 v1 v1 h) (fun g1 => oH (dU g1 (a0 + 13) 2 0) (fun g2 => oI (f_X5_value (dtx (g2 a0 3)) 2 (a0 + 13) g2) (fun r3 g4 => if 0 ≤ v1.toInt ∧ v1.toInt < 8 then (if (g4 (a0 + 1) (v1.toInt.toNat)).toInt = 1 then (some ((r3 + 5), g4)) else (if (g4 (a0 + 1) (v1.toInt.toNat)).toInt = 2 then (some (0, g4)) else (if (g4 (a0 + 1) (v1.toInt.toNat)).toInt = 3 then (some ((2 * (r3 + 5)), g4)) else (if (g4 (a0 + 1) (v1.toInt.toNat)).toInt = 4 then (some (0, g4)) else (if (g4 (a0 + 1) (v1.toInt.toNat)).toInt = 5 then (if 0 ≤ v1.toInt ∧ v1.toInt < 8 then (some ((g4 (a0 + 2) (v1.toInt.toNat)), g4)) else none) else (some (r3, g4))))))) else none)))
theorem m_X3_sounds {d : Nat} (hd : 3 ≤ d) (a0 : Nat) (ha0 : zS a0) (v1 : Int32) (h : dH) : dX shC d 39 [.ref a0, .int v1] dI (f_X3_sounds a0 v1 h) h := by
  obtain ⟨e, rfl⟩ : ∃ e, d = e + 1 := ⟨d - 1, by omega⟩
  have hd : 2 ≤ e := by omega
  refine dX_of (mj := mj39) (lo := [some (.ref a0), some (.int v1), none]) rfl (Nat.le_of_ble_eq_true rfl) rfl ?_
  unfold f_X3_sounds
  refine y_aload_n (q := 1) rfl rfl rfl ?_
  refine y_iload_n (q := 2) rfl rfl rfl ?_
  refine y_iload_n (q := 3) rfl rfl rfl ?_
  refine y_callV (I := .invokevirtual 59) (idx := 59) (KD := 1) (J := 50) (mj := mj40) (as := [.ref a0, .int v1, .int v1]) (r := []) (q := 6) rfl (fun _ _ _ _ _ _ => rfl) rfl (by decide) rfl rfl rfl rfl rfl (Nat.le_of_ble_eq_true rfl) (d_recv (shS ha0) (by decide) (by decide)) rfl (m_X3_look (Nat.le_trans (by decide) hd) a0 ha0 v1 v1 h) (fun g1 => ?_)
  refine y_aload_n (q := 7) rfl rfl rfl ?_
  refine y_getR (b := (a0 + 13)) (q := 10) rfl rfl (by decide) (shS ha0) rfl rfl ?_
  refine y_iconst (x := 2) (q := 11) rfl (by decide) rfl ?_
  refine y_iconst (x := 0) (q := 12) rfl (by decide) rfl ?_
  refine y_iast (n := 6) (N := 6) (X := 2) (K := 2) (q := 13) rfl (shS13 ha0) rfl (by decide) ⟨by decide, by decide⟩ rfl rfl (fun g2 => ?_)
  refine y_aload_n (q := 14) rfl rfl rfl ?_
  refine y_getT (q := 17) rfl rfl (by decide) (shS ha0) rfl rfl ?_
  refine y_iconst (x := 2) (q := 18) rfl (by decide) rfl ?_
  refine y_aload_n (q := 19) rfl rfl rfl ?_
  refine y_getR (b := (a0 + 13)) (q := 22) rfl rfl (by decide) (shS ha0) rfl rfl ?_
  refine y_callI (I := .invokevirtual 63) (idx := 63) (KD := 1) (J := 72) (mj := mj62) (as := [.ref (dtx (g2 a0 3)), .int 2, .ref (a0 + 13)]) (r := []) (q := 25) rfl (fun _ _ _ _ _ _ => rfl) rfl (by decide) rfl rfl rfl rfl rfl (Nat.le_of_ble_eq_true rfl) (d_recv (shT (zT_dtx _)) (by decide) (by decide)) rfl (m_X5_value (Nat.le_trans (by decide) hd) (dtx (g2 a0 3)) (zT_dtx _) 2 (a0 + 13) (shS13 ha0) g2) (fun r3 g4 => ?_)
  refine y_istore_n (lo' := [some (.ref a0), some (.int v1), some (.int r3)]) (q := 26) rfl (Nat.le_of_ble_eq_true rfl) rfl rfl ?_
  refine y_aload_n (q := 27) rfl rfl rfl ?_
  refine y_getR (b := (a0 + 1)) (q := 30) rfl rfl (by decide) (shS ha0) rfl rfl ?_
  refine y_iload_n (q := 31) rfl rfl rfl ?_
  refine y_guard (fun c5 => ?_)
  refine y_iald (n := 8) (N := 8) (X := v1.toInt) (K := v1.toInt.toNat) (q := 32) hbC rfl (shS1 ha0) rfl rfl c5 rfl rfl ?_
  refine dY_ite (fun c6 => ?_) (fun c7 => ?_)
  · skip
    refine y_tabI (q := 68) 1 rfl c6 (by decide) (by decide) rfl rfl ?_
    refine y_iload_n (q := 69) rfl rfl rfl ?_
    refine y_iconst (x := 5) (q := 70) rfl (by decide) rfl ?_
    refine y_iadd (q := 71) rfl rfl ?_
    exact y_retI rfl (by decide) rfl rfl
  refine dY_ite (fun c8 => ?_) (fun c9 => ?_)
  · skip
    refine y_tabI (q := 72) 2 rfl c8 (by decide) (by decide) rfl rfl ?_
    refine y_iconst (x := 0) (q := 73) rfl (by decide) rfl ?_
    exact y_retI rfl (by decide) rfl rfl
  refine dY_ite (fun c10 => ?_) (fun c11 => ?_)
  · skip
    refine y_tabI (q := 74) 3 rfl c10 (by decide) (by decide) rfl rfl ?_
    refine y_iconst (x := 2) (q := 75) rfl (by decide) rfl ?_
    refine y_iload_n (q := 76) rfl rfl rfl ?_
    refine y_iconst (x := 5) (q := 77) rfl (by decide) rfl ?_
    refine y_iadd (q := 78) rfl rfl ?_
    refine y_imul (q := 79) rfl rfl ?_
    exact y_retI rfl (by decide) rfl rfl
  refine dY_ite (fun c12 => ?_) (fun c13 => ?_)
  · skip
    refine y_tabI (q := 72) 4 rfl c12 (by decide) (by decide) rfl rfl ?_
    refine y_iconst (x := 0) (q := 73) rfl (by decide) rfl ?_
    exact y_retI rfl (by decide) rfl rfl
  refine dY_ite (fun c14 => ?_) (fun c15 => ?_)
  · skip
    refine y_tabI (q := 80) 5 rfl c14 (by decide) (by decide) rfl rfl ?_
    refine y_aload_n (q := 81) rfl rfl rfl ?_
    refine y_getR (b := (a0 + 2)) (q := 84) rfl rfl (by decide) (shS ha0) rfl rfl ?_
    refine y_iload_n (q := 85) rfl rfl rfl ?_
    refine y_guard (fun c16 => ?_)
    refine y_iald (n := 8) (N := 8) (X := v1.toInt) (K := v1.toInt.toNat) (q := 86) hbC rfl (shS2 ha0) rfl rfl c16 rfl rfl ?_
    exact y_retI rfl (by decide) rfl rfl
  refine y_tabD (q := 87) rfl (by omega) rfl ?_
  refine y_iload_n (q := 88) rfl rfl rfl ?_
  exact y_retI rfl (by decide) rfl rfl
def l_X3_holdFeast_14 (a0 : Nat) (v1 : Int32) (k : dH → Option (dH)) : Nat → Int32 → dH → Option (dH)
  | 0, _, _ => none
  | n + 1, v2, h => if v2.toInt < (h a0 2).toInt then (if 0 ≤ v1.toInt ∧ v1.toInt < 8 then (if (h (a0 + 3) (v1.toInt.toNat)).toInt = (-1) then (l_X3_holdFeast_14 a0 v1 k n (v2 + 1) h) else (if 0 ≤ v1.toInt ∧ v1.toInt < 8 then (if 0 ≤ v2.toInt ∧ v2.toInt < 8 then (if (h (a0 + 3) (v1.toInt.toNat)).toInt = (h (a0 + 3) (v2.toInt.toNat)).toInt then (oI (f_X3_meets a0 v1 v2 h) (fun r12 g13 => oI (f_X3_meets a0 v2 v1 g13) (fun r14 g15 => if 0 ≤ v1.toInt ∧ v1.toInt < 8 then (if 0 ≤ v2.toInt ∧ v2.toInt < 8 then (oV (f_X3_tie a0 v1 v2 (dmin 99 ((g15 (a0 + 5 + v1.toInt.toNat) (v2.toInt.toNat)) + (r12 + r14))) g15) (fun g18 => l_X3_holdFeast_14 a0 v1 k n (v2 + 1) g18)) else none) else none))) else (l_X3_holdFeast_14 a0 v1 k n (v2 + 1) h)) else none) else none)) else none) else (k  h)
theorem lz_X3_holdFeast_14 {d : Nat} (hd : 3 ≤ d) (a0 : Nat) (ha0 : zS a0) (v1 : Int32) (k : dH → Option (dH)) (hk : ∀ (w2 : Int32) (z3 : Option Value) (h : dH), dY shC d mj41 dV (k h) 91 [some (.ref a0), some (.int v1), some (.int w2), z3] [] h) : ∀ (n : Nat) (v2 : Int32) (h : dH) (z3 : Option Value), dY shC d mj41 dV (l_X3_holdFeast_14 a0 v1 k n v2 h) 14 [some (.ref a0), some (.int v1), some (.int v2), z3] [] h
  | 0, _, _, _ => dY_none
  | n + 1, v2, h, z3 => by
    rw [l_X3_holdFeast_14]
    refine y_iload_n (q := 15) rfl rfl rfl ?_
    refine y_aload_n (q := 16) rfl rfl rfl ?_
    refine y_getI (q := 19) rfl rfl (by decide) (shS ha0) rfl rfl ?_
    refine y_ge (q := 91) (q' := 22) rfl rfl rfl rfl rfl (fun c3 => ?_) (fun c4 => ?_)
    · skip
      refine y_aload_n (q := 23) rfl rfl rfl ?_
      refine y_getR (b := (a0 + 3)) (q := 26) rfl rfl (by decide) (shS ha0) rfl rfl ?_
      refine y_iload_n (q := 27) rfl rfl rfl ?_
      refine y_guard (fun c5 => ?_)
      refine y_iald (n := 8) (N := 8) (X := v1.toInt) (K := v1.toInt.toNat) (q := 28) hbC rfl (shS3 ha0) rfl rfl c5 rfl rfl ?_
      refine y_iconst (x := (-1)) (q := 29) rfl (by decide) rfl ?_
      refine y_eq (q := 85) (q' := 32) rfl rfl (by decide) rfl rfl (fun c6 => ?_) (fun c7 => ?_)
      · skip
        refine y_iinc (z := (v2 + 1)) (lo' := [some (.ref a0), some (.int v1), some (.int (v2 + 1)), z3]) (q := 88) rfl rfl (Nat.le_of_ble_eq_true rfl) (by rw [oi_1]) rfl rfl ?_
        refine y_goto (q := 14) rfl rfl ?_
        exact lz_X3_holdFeast_14 hd a0 ha0 v1 k hk n (v2 + 1) h (z3)
      · skip
        refine y_aload_n (q := 33) rfl rfl rfl ?_
        refine y_getR (b := (a0 + 3)) (q := 36) rfl rfl (by decide) (shS ha0) rfl rfl ?_
        refine y_iload_n (q := 37) rfl rfl rfl ?_
        refine y_guard (fun c8 => ?_)
        refine y_iald (n := 8) (N := 8) (X := v1.toInt) (K := v1.toInt.toNat) (q := 38) hbC rfl (shS3 ha0) rfl rfl c8 rfl rfl ?_
        refine y_aload_n (q := 39) rfl rfl rfl ?_
        refine y_getR (b := (a0 + 3)) (q := 42) rfl rfl (by decide) (shS ha0) rfl rfl ?_
        refine y_iload_n (q := 43) rfl rfl rfl ?_
        refine y_guard (fun c9 => ?_)
        refine y_iald (n := 8) (N := 8) (X := v2.toInt) (K := v2.toInt.toNat) (q := 44) hbC rfl (shS3 ha0) rfl rfl c9 rfl rfl ?_
        refine y_eq (q := 50) (q' := 47) rfl rfl rfl rfl rfl (fun c10 => ?_) (fun c11 => ?_)
        · skip
          refine y_aload_n (q := 51) rfl rfl rfl ?_
          refine y_iload_n (q := 52) rfl rfl rfl ?_
          refine y_iload_n (q := 53) rfl rfl rfl ?_
          refine y_callI (I := .invokevirtual 72) (idx := 72) (KD := 1) (J := 47) (mj := mj37) (as := [.ref a0, .int v1, .int v2]) (r := []) (q := 56) rfl (fun _ _ _ _ _ _ => rfl) rfl (by decide) rfl rfl rfl rfl rfl (Nat.le_of_ble_eq_true rfl) (d_recv (shS ha0) (by decide) (by decide)) rfl (m_X3_meets (Nat.le_trans (by decide) hd) a0 ha0 v1 v2 h) (fun r12 g13 => ?_)
          refine y_aload_n (q := 57) rfl rfl rfl ?_
          refine y_iload_n (q := 58) rfl rfl rfl ?_
          refine y_iload_n (q := 59) rfl rfl rfl ?_
          refine y_callI (I := .invokevirtual 72) (idx := 72) (KD := 1) (J := 47) (mj := mj37) (as := [.ref a0, .int v2, .int v1]) (r := [.int r12]) (q := 62) rfl (fun _ _ _ _ _ _ => rfl) rfl (by decide) rfl rfl rfl rfl rfl (Nat.le_of_ble_eq_true rfl) (d_recv (shS ha0) (by decide) (by decide)) rfl (m_X3_meets (Nat.le_trans (by decide) hd) a0 ha0 v2 v1 g13) (fun r14 g15 => ?_)
          refine y_iadd (q := 63) rfl rfl ?_
          refine y_istore_n (lo' := [some (.ref a0), some (.int v1), some (.int v2), some (.int (r12 + r14))]) (q := 64) rfl (Nat.le_of_ble_eq_true rfl) rfl rfl ?_
          refine y_aload_n (q := 65) rfl rfl rfl ?_
          refine y_iload_n (q := 66) rfl rfl rfl ?_
          refine y_iload_n (q := 67) rfl rfl rfl ?_
          refine y_bipush (x := 99) (q := 69) rfl (by decide) rfl ?_
          refine y_aload_n (q := 70) rfl rfl rfl ?_
          refine y_getR (b := (a0 + 4)) (q := 73) rfl rfl (by decide) (shS ha0) rfl rfl ?_
          refine y_iload_n (q := 74) rfl rfl rfl ?_
          refine y_guard (fun c16 => ?_)
          refine y_aald (b := (a0 + 5 + v1.toInt.toNat)) (K := v1.toInt.toNat) (X := v1.toInt) (q := 75) hbC rfl (shS4 ha0) (by decide) rfl c16.1 rfl (shS4k _ (by omega : v1.toInt.toNat < 8)) rfl ?_
          refine y_iload_n (q := 76) rfl rfl rfl ?_
          refine y_guard (fun c17 => ?_)
          refine y_iald (n := 8) (N := 8) (X := v2.toInt) (K := v2.toInt.toNat) (q := 77) hbC rfl (shSr ha0 (by omega : v1.toInt.toNat < 8)) rfl rfl c17 rfl rfl ?_
          refine y_iload_n (q := 78) rfl rfl rfl ?_
          refine y_iadd (q := 79) rfl rfl ?_
          refine y_min (q := 82) rfl rfl (Nat.le_of_ble_eq_true rfl) rfl ?_
          refine y_callV (I := .invokevirtual 79) (idx := 79) (KD := 1) (J := 40) (mj := mj30) (as := [.ref a0, .int v1, .int v2, .int (dmin 99 ((g15 (a0 + 5 + v1.toInt.toNat) (v2.toInt.toNat)) + (r12 + r14)))]) (r := []) (q := 85) rfl (fun _ _ _ _ _ _ => rfl) rfl (by decide) rfl rfl rfl rfl rfl (Nat.le_of_ble_eq_true rfl) (d_recv (shS ha0) (by decide) (by decide)) rfl (m_X3_tie (Nat.le_trans (by decide) hd) a0 ha0 v1 v2 (dmin 99 ((g15 (a0 + 5 + v1.toInt.toNat) (v2.toInt.toNat)) + (r12 + r14))) g15) (fun g18 => ?_)
          refine y_iinc (z := (v2 + 1)) (lo' := [some (.ref a0), some (.int v1), some (.int (v2 + 1)), some (.int (r12 + r14))]) (q := 88) rfl rfl (Nat.le_of_ble_eq_true rfl) (by rw [oi_1]) rfl rfl ?_
          refine y_goto (q := 14) rfl rfl ?_
          exact lz_X3_holdFeast_14 hd a0 ha0 v1 k hk n (v2 + 1) g18 (some (.int (r12 + r14)))
        · skip
          refine y_goto (q := 85) rfl rfl ?_
          refine y_iinc (z := (v2 + 1)) (lo' := [some (.ref a0), some (.int v1), some (.int (v2 + 1)), z3]) (q := 88) rfl rfl (Nat.le_of_ble_eq_true rfl) (by rw [oi_1]) rfl rfl ?_
          refine y_goto (q := 14) rfl rfl ?_
          exact lz_X3_holdFeast_14 hd a0 ha0 v1 k hk n (v2 + 1) h (z3)
    · skip
      exact hk  v2 (z3) h
def l_X3_holdFeast_2 (a0 : Nat) (k : dH → Option (dH)) : Nat → Int32 → dH → Option (dH)
  | 0, _, _ => none
  | n + 1, v1, h => if v1.toInt < (h a0 2).toInt then (l_X3_holdFeast_14 a0 v1  (fun g21 => l_X3_holdFeast_2 a0 k n (v1 + 1) g21) fuel0 (v1 + 1) h) else (k  h)
theorem lz_X3_holdFeast_2 {d : Nat} (hd : 3 ≤ d) (a0 : Nat) (ha0 : zS a0) (k : dH → Option (dH)) (hk : ∀ (w1 : Int32) (z2 : Option Value) (z3 : Option Value) (h : dH), dY shC d mj41 dV (k h) 97 [some (.ref a0), some (.int w1), z2, z3] [] h) : ∀ (n : Nat) (v1 : Int32) (h : dH) (z2 : Option Value) (z3 : Option Value), dY shC d mj41 dV (l_X3_holdFeast_2 a0 k n v1 h) 2 [some (.ref a0), some (.int v1), z2, z3] [] h
  | 0, _, _, _, _ => dY_none
  | n + 1, v1, h, z2, z3 => by
    rw [l_X3_holdFeast_2]
    refine y_iload_n (q := 3) rfl rfl rfl ?_
    refine y_aload_n (q := 4) rfl rfl rfl ?_
    refine y_getI (q := 7) rfl rfl (by decide) (shS ha0) rfl rfl ?_
    refine y_ge (q := 97) (q' := 10) rfl rfl rfl rfl rfl (fun c1 => ?_) (fun c2 => ?_)
    · skip
      refine y_iload_n (q := 11) rfl rfl rfl ?_
      refine y_iconst (x := 1) (q := 12) rfl (by decide) rfl ?_
      refine y_iadd (q := 13) rfl rfl ?_
      refine y_istore_n (lo' := [some (.ref a0), some (.int v1), some (.int (v1 + 1)), z3]) (q := 14) rfl (Nat.le_of_ble_eq_true rfl) rfl rfl ?_
      refine lz_X3_holdFeast_14 hd a0 ha0 v1  _ (fun z19 z20 g21 => ?_) fuel0 (v1 + 1) h (z3)
      refine y_iinc (z := (v1 + 1)) (lo' := [some (.ref a0), some (.int (v1 + 1)), some (.int z19), z20]) (q := 94) rfl rfl (Nat.le_of_ble_eq_true rfl) (by rw [oi_1]) rfl rfl ?_
      refine y_goto (q := 2) rfl rfl ?_
      exact lz_X3_holdFeast_2 hd a0 ha0 k hk n (v1 + 1) g21 (some (.int z19)) (z20)
    · skip
      exact hk  v1 (z2) (z3) h
def f_X3_holdFeast (a0 : Nat) (h : dH) : Option (dH) := l_X3_holdFeast_2 a0  (fun g25 => some g25) fuel0 0 h
theorem m_X3_holdFeast {d : Nat} (hd : 4 ≤ d) (a0 : Nat) (ha0 : zS a0) (h : dH) : dX shC d 41 [.ref a0] dV (f_X3_holdFeast a0 h) h := by
  obtain ⟨e, rfl⟩ : ∃ e, d = e + 1 := ⟨d - 1, by omega⟩
  have hd : 3 ≤ e := by omega
  refine dX_of (mj := mj41) (lo := [some (.ref a0), none, none, none]) rfl (Nat.le_of_ble_eq_true rfl) rfl ?_
  unfold f_X3_holdFeast
  refine y_iconst (x := 0) (q := 1) rfl (by decide) rfl ?_
  refine y_istore_n (lo' := [some (.ref a0), some (.int 0), none, none]) (q := 2) rfl (Nat.le_of_ble_eq_true rfl) rfl rfl ?_
  refine lz_X3_holdFeast_2 hd a0 ha0  _ (fun z22 z23 z24 g25 => ?_) fuel0 0 h (none) (none)
  exact y_retV rfl rfl rfl
def l_X3_endYear_14 (a0 : Nat) (v1 : Int32) (k : dH → Option (dH)) : Nat → Int32 → dH → Option (dH)
  | 0, _, _ => none
  | n + 1, v2, h => if v2.toInt < (h a0 2).toInt then (oI (f_X3_forgets a0 v1 v2 h) (fun r5 g6 => oI (f_X3_forgets a0 v2 v1 g6) (fun r7 g8 => if 0 ≤ v1.toInt ∧ v1.toInt < 8 then (if 0 ≤ v2.toInt ∧ v2.toInt < 8 then (oV (f_X3_tie a0 v1 v2 (dmax 0 ((g8 (a0 + 5 + v1.toInt.toNat) (v2.toInt.toNat)) - (r5 + r7))) g8) (fun g11 => l_X3_endYear_14 a0 v1 k n (v2 + 1) g11)) else none) else none))) else (k  h)
theorem lz_X3_endYear_14 {d : Nat} (hd : 3 ≤ d) (a0 : Nat) (ha0 : zS a0) (v1 : Int32) (k : dH → Option (dH)) (hk : ∀ (w2 : Int32) (z3 : Option Value) (h : dH), dY shC d mj42 dV (k h) 62 [some (.ref a0), some (.int v1), some (.int w2), z3] [] h) : ∀ (n : Nat) (v2 : Int32) (h : dH) (z3 : Option Value), dY shC d mj42 dV (l_X3_endYear_14 a0 v1 k n v2 h) 14 [some (.ref a0), some (.int v1), some (.int v2), z3] [] h
  | 0, _, _, _ => dY_none
  | n + 1, v2, h, z3 => by
    rw [l_X3_endYear_14]
    refine y_iload_n (q := 15) rfl rfl rfl ?_
    refine y_aload_n (q := 16) rfl rfl rfl ?_
    refine y_getI (q := 19) rfl rfl (by decide) (shS ha0) rfl rfl ?_
    refine y_ge (q := 62) (q' := 22) rfl rfl rfl rfl rfl (fun c3 => ?_) (fun c4 => ?_)
    · skip
      refine y_aload_n (q := 23) rfl rfl rfl ?_
      refine y_iload_n (q := 24) rfl rfl rfl ?_
      refine y_iload_n (q := 25) rfl rfl rfl ?_
      refine y_callI (I := .invokevirtual 83) (idx := 83) (KD := 1) (J := 48) (mj := mj38) (as := [.ref a0, .int v1, .int v2]) (r := []) (q := 28) rfl (fun _ _ _ _ _ _ => rfl) rfl (by decide) rfl rfl rfl rfl rfl (Nat.le_of_ble_eq_true rfl) (d_recv (shS ha0) (by decide) (by decide)) rfl (m_X3_forgets (Nat.le_trans (by decide) hd) a0 ha0 v1 v2 h) (fun r5 g6 => ?_)
      refine y_aload_n (q := 29) rfl rfl rfl ?_
      refine y_iload_n (q := 30) rfl rfl rfl ?_
      refine y_iload_n (q := 31) rfl rfl rfl ?_
      refine y_callI (I := .invokevirtual 83) (idx := 83) (KD := 1) (J := 48) (mj := mj38) (as := [.ref a0, .int v2, .int v1]) (r := [.int r5]) (q := 34) rfl (fun _ _ _ _ _ _ => rfl) rfl (by decide) rfl rfl rfl rfl rfl (Nat.le_of_ble_eq_true rfl) (d_recv (shS ha0) (by decide) (by decide)) rfl (m_X3_forgets (Nat.le_trans (by decide) hd) a0 ha0 v2 v1 g6) (fun r7 g8 => ?_)
      refine y_iadd (q := 35) rfl rfl ?_
      refine y_istore_n (lo' := [some (.ref a0), some (.int v1), some (.int v2), some (.int (r5 + r7))]) (q := 36) rfl (Nat.le_of_ble_eq_true rfl) rfl rfl ?_
      refine y_aload_n (q := 37) rfl rfl rfl ?_
      refine y_iload_n (q := 38) rfl rfl rfl ?_
      refine y_iload_n (q := 39) rfl rfl rfl ?_
      refine y_iconst (x := 0) (q := 40) rfl (by decide) rfl ?_
      refine y_aload_n (q := 41) rfl rfl rfl ?_
      refine y_getR (b := (a0 + 4)) (q := 44) rfl rfl (by decide) (shS ha0) rfl rfl ?_
      refine y_iload_n (q := 45) rfl rfl rfl ?_
      refine y_guard (fun c9 => ?_)
      refine y_aald (b := (a0 + 5 + v1.toInt.toNat)) (K := v1.toInt.toNat) (X := v1.toInt) (q := 46) hbC rfl (shS4 ha0) (by decide) rfl c9.1 rfl (shS4k _ (by omega : v1.toInt.toNat < 8)) rfl ?_
      refine y_iload_n (q := 47) rfl rfl rfl ?_
      refine y_guard (fun c10 => ?_)
      refine y_iald (n := 8) (N := 8) (X := v2.toInt) (K := v2.toInt.toNat) (q := 48) hbC rfl (shSr ha0 (by omega : v1.toInt.toNat < 8)) rfl rfl c10 rfl rfl ?_
      refine y_iload_n (q := 49) rfl rfl rfl ?_
      refine y_isub (q := 50) rfl rfl ?_
      refine y_max (q := 53) rfl rfl (Nat.le_of_ble_eq_true rfl) rfl ?_
      refine y_callV (I := .invokevirtual 79) (idx := 79) (KD := 1) (J := 40) (mj := mj30) (as := [.ref a0, .int v1, .int v2, .int (dmax 0 ((g8 (a0 + 5 + v1.toInt.toNat) (v2.toInt.toNat)) - (r5 + r7)))]) (r := []) (q := 56) rfl (fun _ _ _ _ _ _ => rfl) rfl (by decide) rfl rfl rfl rfl rfl (Nat.le_of_ble_eq_true rfl) (d_recv (shS ha0) (by decide) (by decide)) rfl (m_X3_tie (Nat.le_trans (by decide) hd) a0 ha0 v1 v2 (dmax 0 ((g8 (a0 + 5 + v1.toInt.toNat) (v2.toInt.toNat)) - (r5 + r7))) g8) (fun g11 => ?_)
      refine y_iinc (z := (v2 + 1)) (lo' := [some (.ref a0), some (.int v1), some (.int (v2 + 1)), some (.int (r5 + r7))]) (q := 59) rfl rfl (Nat.le_of_ble_eq_true rfl) (by rw [oi_1]) rfl rfl ?_
      refine y_goto (q := 14) rfl rfl ?_
      exact lz_X3_endYear_14 hd a0 ha0 v1 k hk n (v2 + 1) g11 (some (.int (r5 + r7)))
    · skip
      exact hk  v2 (z3) h
def l_X3_endYear_2 (a0 : Nat) (k : dH → Option (dH)) : Nat → Int32 → dH → Option (dH)
  | 0, _, _ => none
  | n + 1, v1, h => if v1.toInt < (h a0 2).toInt then (l_X3_endYear_14 a0 v1  (fun g14 => l_X3_endYear_2 a0 k n (v1 + 1) g14) fuel0 (v1 + 1) h) else (k  h)
theorem lz_X3_endYear_2 {d : Nat} (hd : 3 ≤ d) (a0 : Nat) (ha0 : zS a0) (k : dH → Option (dH)) (hk : ∀ (w1 : Int32) (z2 : Option Value) (z3 : Option Value) (h : dH), dY shC d mj42 dV (k h) 68 [some (.ref a0), some (.int w1), z2, z3] [] h) : ∀ (n : Nat) (v1 : Int32) (h : dH) (z2 : Option Value) (z3 : Option Value), dY shC d mj42 dV (l_X3_endYear_2 a0 k n v1 h) 2 [some (.ref a0), some (.int v1), z2, z3] [] h
  | 0, _, _, _, _ => dY_none
  | n + 1, v1, h, z2, z3 => by
    rw [l_X3_endYear_2]
    refine y_iload_n (q := 3) rfl rfl rfl ?_
    refine y_aload_n (q := 4) rfl rfl rfl ?_
    refine y_getI (q := 7) rfl rfl (by decide) (shS ha0) rfl rfl ?_
    refine y_ge (q := 68) (q' := 10) rfl rfl rfl rfl rfl (fun c1 => ?_) (fun c2 => ?_)
    · skip
      refine y_iload_n (q := 11) rfl rfl rfl ?_
      refine y_iconst (x := 1) (q := 12) rfl (by decide) rfl ?_
      refine y_iadd (q := 13) rfl rfl ?_
      refine y_istore_n (lo' := [some (.ref a0), some (.int v1), some (.int (v1 + 1)), z3]) (q := 14) rfl (Nat.le_of_ble_eq_true rfl) rfl rfl ?_
      refine lz_X3_endYear_14 hd a0 ha0 v1  _ (fun z12 z13 g14 => ?_) fuel0 (v1 + 1) h (z3)
      refine y_iinc (z := (v1 + 1)) (lo' := [some (.ref a0), some (.int (v1 + 1)), some (.int z12), z13]) (q := 65) rfl rfl (Nat.le_of_ble_eq_true rfl) (by rw [oi_1]) rfl rfl ?_
      refine y_goto (q := 2) rfl rfl ?_
      exact lz_X3_endYear_2 hd a0 ha0 k hk n (v1 + 1) g14 (some (.int z12)) (z13)
    · skip
      exact hk  v1 (z2) (z3) h
def f_X3_endYear (a0 : Nat) (h : dH) : Option (dH) := l_X3_endYear_2 a0  (fun g18 => oH (dU g18 a0 0 ((g18 a0 0) + 1)) (fun g19 => some g19)) fuel0 0 h
theorem m_X3_endYear {d : Nat} (hd : 4 ≤ d) (a0 : Nat) (ha0 : zS a0) (h : dH) : dX shC d 42 [.ref a0] dV (f_X3_endYear a0 h) h := by
  obtain ⟨e, rfl⟩ : ∃ e, d = e + 1 := ⟨d - 1, by omega⟩
  have hd : 3 ≤ e := by omega
  refine dX_of (mj := mj42) (lo := [some (.ref a0), none, none, none]) rfl (Nat.le_of_ble_eq_true rfl) rfl ?_
  unfold f_X3_endYear
  refine y_iconst (x := 0) (q := 1) rfl (by decide) rfl ?_
  refine y_istore_n (lo' := [some (.ref a0), some (.int 0), none, none]) (q := 2) rfl (Nat.le_of_ble_eq_true rfl) rfl rfl ?_
  refine lz_X3_endYear_2 hd a0 ha0  _ (fun z15 z16 z17 g18 => ?_) fuel0 0 h (none) (none)
  refine y_aload_n (q := 69) rfl rfl rfl ?_
  refine y_dup (q := 70) rfl rfl ?_
  refine y_getI (q := 73) rfl rfl (by decide) (shS ha0) rfl rfl ?_
  refine y_iconst (x := 1) (q := 74) rfl (by decide) rfl ?_
  refine y_iadd (q := 75) rfl rfl ?_
  refine y_putI (q := 78) rfl rfl (by decide) (shS ha0) rfl rfl rfl rfl (fun g19 => ?_)
  exact y_retV rfl rfl rfl
def l_X3_pass_2 (a0 : Nat) (v1 : Int32) (k : dH → Option (Int32 × dH)) : Nat → Int32 → dH → Option (Int32 × dH)
  | 0, _, _ => none
  | n + 1, v2, h => if v2.toInt < v1.toInt then (oV (f_X3_holdFeast a0 h) (fun g3 => oV (f_X3_endYear a0 g3) (fun g4 => l_X3_pass_2 a0 v1 k n (v2 + 1) g4))) else (k  h)
theorem lz_X3_pass_2 {d : Nat} (hd : 4 ≤ d) (a0 : Nat) (ha0 : zS a0) (v1 : Int32) (k : dH → Option (Int32 × dH)) (hk : ∀ (w2 : Int32) (h : dH), dY shC d mj43 dI (k h) 21 [some (.ref a0), some (.int v1), some (.int w2)] [] h) : ∀ (n : Nat) (v2 : Int32) (h : dH), dY shC d mj43 dI (l_X3_pass_2 a0 v1 k n v2 h) 2 [some (.ref a0), some (.int v1), some (.int v2)] [] h
  | 0, _, _ => dY_none
  | n + 1, v2, h => by
    rw [l_X3_pass_2]
    refine y_iload_n (q := 3) rfl rfl rfl ?_
    refine y_iload_n (q := 4) rfl rfl rfl ?_
    refine y_ge (q := 21) (q' := 7) rfl rfl rfl rfl rfl (fun c1 => ?_) (fun c2 => ?_)
    · skip
      refine y_aload_n (q := 8) rfl rfl rfl ?_
      refine y_callV (I := .invokevirtual 89) (idx := 89) (KD := 1) (J := 51) (mj := mj41) (as := [.ref a0]) (r := []) (q := 11) rfl (fun _ _ _ _ _ _ => rfl) rfl (by decide) rfl rfl rfl rfl rfl (Nat.le_of_ble_eq_true rfl) (d_recv (shS ha0) (by decide) (by decide)) rfl (m_X3_holdFeast (Nat.le_trans (by decide) hd) a0 ha0 h) (fun g3 => ?_)
      refine y_aload_n (q := 12) rfl rfl rfl ?_
      refine y_callV (I := .invokevirtual 92) (idx := 92) (KD := 1) (J := 52) (mj := mj42) (as := [.ref a0]) (r := []) (q := 15) rfl (fun _ _ _ _ _ _ => rfl) rfl (by decide) rfl rfl rfl rfl rfl (Nat.le_of_ble_eq_true rfl) (d_recv (shS ha0) (by decide) (by decide)) rfl (m_X3_endYear (Nat.le_trans (by decide) hd) a0 ha0 g3) (fun g4 => ?_)
      refine y_iinc (z := (v2 + 1)) (lo' := [some (.ref a0), some (.int v1), some (.int (v2 + 1))]) (q := 18) rfl rfl (Nat.le_of_ble_eq_true rfl) (by rw [oi_1]) rfl rfl ?_
      refine y_goto (q := 2) rfl rfl ?_
      exact lz_X3_pass_2 hd a0 ha0 v1 k hk n (v2 + 1) g4 
    · skip
      exact hk  v2 h
def f_X3_pass (a0 : Nat) (v1 : Int32) (h : dH) : Option (Int32 × dH) := l_X3_pass_2 a0 v1  (fun g6 => oP (f_X3_friends a0 g6) (fun r7 => some (r7, g6))) fuel0 0 h
theorem m_X3_pass {d : Nat} (hd : 5 ≤ d) (a0 : Nat) (ha0 : zS a0) (v1 : Int32) (h : dH) : dX shC d 43 [.ref a0, .int v1] dI (f_X3_pass a0 v1 h) h := by
  obtain ⟨e, rfl⟩ : ∃ e, d = e + 1 := ⟨d - 1, by omega⟩
  have hd : 4 ≤ e := by omega
  refine dX_of (mj := mj43) (lo := [some (.ref a0), some (.int v1), none]) rfl (Nat.le_of_ble_eq_true rfl) rfl ?_
  unfold f_X3_pass
  refine y_iconst (x := 0) (q := 1) rfl (by decide) rfl ?_
  refine y_istore_n (lo' := [some (.ref a0), some (.int v1), some (.int 0)]) (q := 2) rfl (Nat.le_of_ble_eq_true rfl) rfl rfl ?_
  refine lz_X3_pass_2 hd a0 ha0 v1  _ (fun z5 g6 => ?_) fuel0 0 h 
  refine y_aload_n (q := 22) rfl rfl rfl ?_
  refine y_callP (I := .invokevirtual 95) (idx := 95) (KD := 1) (J := 43) (mj := mj33) (as := [.ref a0]) (r := []) (q := 25) rfl (fun _ _ _ _ _ _ => rfl) rfl (by decide) rfl rfl rfl rfl rfl (Nat.le_of_ble_eq_true rfl) (d_recv (shS ha0) (by decide) (by decide)) rfl (m_X3_friends (Nat.le_trans (by decide) hd) a0 ha0 g6) (fun r7 => ?_)
  exact y_retI rfl (by decide) rfl rfl
def l_X3_dinAt_4 (a0 : Nat) (v1 : Int32) (k : Int32 → dH → Option (Int32 × dH)) : Nat → Int32 → Int32 → dH → Option (Int32 × dH)
  | 0, _, _, _ => none
  | n + 1, v2, v3, h => if v3.toInt < (h a0 2).toInt then (if 0 ≤ v3.toInt ∧ v3.toInt < 8 then (if (h (a0 + 3) (v3.toInt.toNat)).toInt = v1.toInt then (oI (f_X3_sounds a0 v3 h) (fun r6 g7 => l_X3_dinAt_4 a0 v1 k n (v2 + r6) (v3 + 1) g7)) else (l_X3_dinAt_4 a0 v1 k n v2 (v3 + 1) h)) else none) else (k v2 h)
theorem lz_X3_dinAt_4 {d : Nat} (hd : 3 ≤ d) (a0 : Nat) (ha0 : zS a0) (v1 : Int32) (k : Int32 → dH → Option (Int32 × dH)) (hk : ∀ (v2 : Int32) (w3 : Int32) (h : dH), dY shC d mj45 dI (k v2 h) 36 [some (.ref a0), some (.int v1), some (.int v2), some (.int w3)] [] h) : ∀ (n : Nat) (v2 : Int32) (v3 : Int32) (h : dH), dY shC d mj45 dI (l_X3_dinAt_4 a0 v1 k n v2 v3 h) 4 [some (.ref a0), some (.int v1), some (.int v2), some (.int v3)] [] h
  | 0, _, _, _ => dY_none
  | n + 1, v2, v3, h => by
    rw [l_X3_dinAt_4]
    refine y_iload_n (q := 5) rfl rfl rfl ?_
    refine y_aload_n (q := 6) rfl rfl rfl ?_
    refine y_getI (q := 9) rfl rfl (by decide) (shS ha0) rfl rfl ?_
    refine y_ge (q := 36) (q' := 12) rfl rfl rfl rfl rfl (fun c1 => ?_) (fun c2 => ?_)
    · skip
      refine y_aload_n (q := 13) rfl rfl rfl ?_
      refine y_getR (b := (a0 + 3)) (q := 16) rfl rfl (by decide) (shS ha0) rfl rfl ?_
      refine y_iload_n (q := 17) rfl rfl rfl ?_
      refine y_guard (fun c3 => ?_)
      refine y_iald (n := 8) (N := 8) (X := v3.toInt) (K := v3.toInt.toNat) (q := 18) hbC rfl (shS3 ha0) rfl rfl c3 rfl rfl ?_
      refine y_iload_n (q := 19) rfl rfl rfl ?_
      refine y_ne (q := 30) (q' := 22) rfl rfl rfl rfl rfl (fun c4 => ?_) (fun c5 => ?_)
      · skip
        refine y_iload_n (q := 23) rfl rfl rfl ?_
        refine y_aload_n (q := 24) rfl rfl rfl ?_
        refine y_iload_n (q := 25) rfl rfl rfl ?_
        refine y_callI (I := .invokevirtual 102) (idx := 102) (KD := 1) (J := 49) (mj := mj39) (as := [.ref a0, .int v3]) (r := [.int v2]) (q := 28) rfl (fun _ _ _ _ _ _ => rfl) rfl (by decide) rfl rfl rfl rfl rfl (Nat.le_of_ble_eq_true rfl) (d_recv (shS ha0) (by decide) (by decide)) rfl (m_X3_sounds (Nat.le_trans (by decide) hd) a0 ha0 v3 h) (fun r6 g7 => ?_)
        refine y_iadd (q := 29) rfl rfl ?_
        refine y_istore_n (lo' := [some (.ref a0), some (.int v1), some (.int (v2 + r6)), some (.int v3)]) (q := 30) rfl (Nat.le_of_ble_eq_true rfl) rfl rfl ?_
        refine y_iinc (z := (v3 + 1)) (lo' := [some (.ref a0), some (.int v1), some (.int (v2 + r6)), some (.int (v3 + 1))]) (q := 33) rfl rfl (Nat.le_of_ble_eq_true rfl) (by rw [oi_1]) rfl rfl ?_
        refine y_goto (q := 4) rfl rfl ?_
        exact lz_X3_dinAt_4 hd a0 ha0 v1 k hk n (v2 + r6) (v3 + 1) g7 
      · skip
        refine y_iinc (z := (v3 + 1)) (lo' := [some (.ref a0), some (.int v1), some (.int v2), some (.int (v3 + 1))]) (q := 33) rfl rfl (Nat.le_of_ble_eq_true rfl) (by rw [oi_1]) rfl rfl ?_
        refine y_goto (q := 4) rfl rfl ?_
        exact lz_X3_dinAt_4 hd a0 ha0 v1 k hk n v2 (v3 + 1) h 
    · skip
      exact hk v2 v3 h
def f_X3_dinAt (a0 : Nat) (v1 : Int32) (h : dH) : Option (Int32 × dH) := l_X3_dinAt_4 a0 v1  (fun v2_8 g10 => some (v2_8, g10)) fuel0 0 0 h
theorem m_X3_dinAt {d : Nat} (hd : 4 ≤ d) (a0 : Nat) (ha0 : zS a0) (v1 : Int32) (h : dH) : dX shC d 45 [.ref a0, .int v1] dI (f_X3_dinAt a0 v1 h) h := by
  obtain ⟨e, rfl⟩ : ∃ e, d = e + 1 := ⟨d - 1, by omega⟩
  have hd : 3 ≤ e := by omega
  refine dX_of (mj := mj45) (lo := [some (.ref a0), some (.int v1), none, none]) rfl (Nat.le_of_ble_eq_true rfl) rfl ?_
  unfold f_X3_dinAt
  refine y_iconst (x := 0) (q := 1) rfl (by decide) rfl ?_
  refine y_istore_n (lo' := [some (.ref a0), some (.int v1), some (.int 0), none]) (q := 2) rfl (Nat.le_of_ble_eq_true rfl) rfl rfl ?_
  refine y_iconst (x := 0) (q := 3) rfl (by decide) rfl ?_
  refine y_istore_n (lo' := [some (.ref a0), some (.int v1), some (.int 0), some (.int 0)]) (q := 4) rfl (Nat.le_of_ble_eq_true rfl) rfl rfl ?_
  refine lz_X3_dinAt_4 hd a0 ha0 v1  _ (fun v2_8 z9 g10 => ?_) fuel0 0 0 h 
  refine y_iload_n (q := 37) rfl rfl rfl ?_
  exact y_retI rfl (by decide) rfl rfl
def l_X3_quietTable_6 (a0 : Nat) (k : Int32 → dH → Option (Int32 × dH)) : Nat → Int32 → Int32 → Int32 → dH → Option (Int32 × dH)
  | 0, _, _, _, _ => none
  | n + 1, v1, v2, v3, h => if v3.toInt < 4 then (oP (f_X3_seatsAt a0 v3 h) (fun r3 => if r3.toInt = 0 then (l_X3_quietTable_6 a0 k n v1 v2 (v3 + 1) h) else (oI (f_X3_dinAt a0 v3 h) (fun r6 g7 => if v1.toInt = (-1) then (l_X3_quietTable_6 a0 k n v3 r6 (v3 + 1) g7) else (if r6.toInt < v2.toInt then (l_X3_quietTable_6 a0 k n v3 r6 (v3 + 1) g7) else (l_X3_quietTable_6 a0 k n v1 v2 (v3 + 1) g7)))))) else (k v1 h)
theorem lz_X3_quietTable_6 {d : Nat} (hd : 4 ≤ d) (a0 : Nat) (ha0 : zS a0) (k : Int32 → dH → Option (Int32 × dH)) (hk : ∀ (v1 : Int32) (w2 : Int32) (w3 : Int32) (z4 : Option Value) (h : dH), dY shC d mj44 dI (k v1 h) 51 [some (.ref a0), some (.int v1), some (.int w2), some (.int w3), z4] [] h) : ∀ (n : Nat) (v1 : Int32) (v2 : Int32) (v3 : Int32) (h : dH) (z4 : Option Value), dY shC d mj44 dI (l_X3_quietTable_6 a0 k n v1 v2 v3 h) 6 [some (.ref a0), some (.int v1), some (.int v2), some (.int v3), z4] [] h
  | 0, _, _, _, _, _ => dY_none
  | n + 1, v1, v2, v3, h, z4 => by
    rw [l_X3_quietTable_6]
    refine y_iload_n (q := 7) rfl rfl rfl ?_
    refine y_iconst (x := 4) (q := 8) rfl (by decide) rfl ?_
    refine y_ge (q := 51) (q' := 11) rfl rfl (by decide) rfl rfl (fun c1 => ?_) (fun c2 => ?_)
    · skip
      refine y_aload_n (q := 12) rfl rfl rfl ?_
      refine y_iload_n (q := 13) rfl rfl rfl ?_
      refine y_callP (I := .invokevirtual 55) (idx := 55) (KD := 1) (J := 45) (mj := mj35) (as := [.ref a0, .int v3]) (r := []) (q := 16) rfl (fun _ _ _ _ _ _ => rfl) rfl (by decide) rfl rfl rfl rfl rfl (Nat.le_of_ble_eq_true rfl) (d_recv (shS ha0) (by decide) (by decide)) rfl (m_X3_seatsAt (Nat.le_trans (by decide) hd) a0 ha0 v3 h) (fun r3 => ?_)
      refine y_ne0 (q := 22) (q' := 19) rfl rfl rfl rfl (fun c4 => ?_) (fun c5 => ?_)
      · skip
        refine y_goto (q := 45) rfl rfl ?_
        refine y_iinc (z := (v3 + 1)) (lo' := [some (.ref a0), some (.int v1), some (.int v2), some (.int (v3 + 1)), z4]) (q := 48) rfl rfl (Nat.le_of_ble_eq_true rfl) (by rw [oi_1]) rfl rfl ?_
        refine y_goto (q := 6) rfl rfl ?_
        exact lz_X3_quietTable_6 hd a0 ha0 k hk n v1 v2 (v3 + 1) h (z4)
      · skip
        refine y_aload_n (q := 23) rfl rfl rfl ?_
        refine y_iload_n (q := 24) rfl rfl rfl ?_
        refine y_callI (I := .invokevirtual 99) (idx := 99) (KD := 1) (J := 55) (mj := mj45) (as := [.ref a0, .int v3]) (r := []) (q := 27) rfl (fun _ _ _ _ _ _ => rfl) rfl (by decide) rfl rfl rfl rfl rfl (Nat.le_of_ble_eq_true rfl) (d_recv (shS ha0) (by decide) (by decide)) rfl (m_X3_dinAt (Nat.le_trans (by decide) hd) a0 ha0 v3 h) (fun r6 g7 => ?_)
        refine y_istore (lo' := [some (.ref a0), some (.int v1), some (.int v2), some (.int v3), some (.int r6)]) (q := 29) rfl (Nat.le_of_ble_eq_true rfl) rfl rfl ?_
        refine y_iload_n (q := 30) rfl rfl rfl ?_
        refine y_iconst (x := (-1)) (q := 31) rfl (by decide) rfl ?_
        refine y_eq (q := 40) (q' := 34) rfl rfl (by decide) rfl rfl (fun c8 => ?_) (fun c9 => ?_)
        · skip
          refine y_iload_n (q := 41) rfl rfl rfl ?_
          refine y_istore_n (lo' := [some (.ref a0), some (.int v3), some (.int v2), some (.int v3), some (.int r6)]) (q := 42) rfl (Nat.le_of_ble_eq_true rfl) rfl rfl ?_
          refine y_iload (q := 44) rfl rfl rfl ?_
          refine y_istore_n (lo' := [some (.ref a0), some (.int v3), some (.int r6), some (.int v3), some (.int r6)]) (q := 45) rfl (Nat.le_of_ble_eq_true rfl) rfl rfl ?_
          refine y_iinc (z := (v3 + 1)) (lo' := [some (.ref a0), some (.int v3), some (.int r6), some (.int (v3 + 1)), some (.int r6)]) (q := 48) rfl rfl (Nat.le_of_ble_eq_true rfl) (by rw [oi_1]) rfl rfl ?_
          refine y_goto (q := 6) rfl rfl ?_
          exact lz_X3_quietTable_6 hd a0 ha0 k hk n v3 r6 (v3 + 1) g7 (some (.int r6))
        · skip
          refine y_iload (q := 36) rfl rfl rfl ?_
          refine y_iload_n (q := 37) rfl rfl rfl ?_
          refine y_ge (q := 45) (q' := 40) rfl rfl rfl rfl rfl (fun c10 => ?_) (fun c11 => ?_)
          · skip
            refine y_iload_n (q := 41) rfl rfl rfl ?_
            refine y_istore_n (lo' := [some (.ref a0), some (.int v3), some (.int v2), some (.int v3), some (.int r6)]) (q := 42) rfl (Nat.le_of_ble_eq_true rfl) rfl rfl ?_
            refine y_iload (q := 44) rfl rfl rfl ?_
            refine y_istore_n (lo' := [some (.ref a0), some (.int v3), some (.int r6), some (.int v3), some (.int r6)]) (q := 45) rfl (Nat.le_of_ble_eq_true rfl) rfl rfl ?_
            refine y_iinc (z := (v3 + 1)) (lo' := [some (.ref a0), some (.int v3), some (.int r6), some (.int (v3 + 1)), some (.int r6)]) (q := 48) rfl rfl (Nat.le_of_ble_eq_true rfl) (by rw [oi_1]) rfl rfl ?_
            refine y_goto (q := 6) rfl rfl ?_
            exact lz_X3_quietTable_6 hd a0 ha0 k hk n v3 r6 (v3 + 1) g7 (some (.int r6))
          · skip
            refine y_iinc (z := (v3 + 1)) (lo' := [some (.ref a0), some (.int v1), some (.int v2), some (.int (v3 + 1)), some (.int r6)]) (q := 48) rfl rfl (Nat.le_of_ble_eq_true rfl) (by rw [oi_1]) rfl rfl ?_
            refine y_goto (q := 6) rfl rfl ?_
            exact lz_X3_quietTable_6 hd a0 ha0 k hk n v1 v2 (v3 + 1) g7 (some (.int r6))
    · skip
      exact hk v1 v2 v3 (z4) h
def f_X3_quietTable (a0 : Nat) (h : dH) : Option (Int32 × dH) := l_X3_quietTable_6 a0  (fun v1_12 g16 => some (v1_12, g16)) fuel0 (-1) 0 0 h
theorem m_X3_quietTable {d : Nat} (hd : 5 ≤ d) (a0 : Nat) (ha0 : zS a0) (h : dH) : dX shC d 44 [.ref a0] dI (f_X3_quietTable a0 h) h := by
  obtain ⟨e, rfl⟩ : ∃ e, d = e + 1 := ⟨d - 1, by omega⟩
  have hd : 4 ≤ e := by omega
  refine dX_of (mj := mj44) (lo := [some (.ref a0), none, none, none, none]) rfl (Nat.le_of_ble_eq_true rfl) rfl ?_
  unfold f_X3_quietTable
  refine y_iconst (x := (-1)) (q := 1) rfl (by decide) rfl ?_
  refine y_istore_n (lo' := [some (.ref a0), some (.int (-1)), none, none, none]) (q := 2) rfl (Nat.le_of_ble_eq_true rfl) rfl rfl ?_
  refine y_iconst (x := 0) (q := 3) rfl (by decide) rfl ?_
  refine y_istore_n (lo' := [some (.ref a0), some (.int (-1)), some (.int 0), none, none]) (q := 4) rfl (Nat.le_of_ble_eq_true rfl) rfl rfl ?_
  refine y_iconst (x := 0) (q := 5) rfl (by decide) rfl ?_
  refine y_istore_n (lo' := [some (.ref a0), some (.int (-1)), some (.int 0), some (.int 0), none]) (q := 6) rfl (Nat.le_of_ble_eq_true rfl) rfl rfl ?_
  refine lz_X3_quietTable_6 hd a0 ha0  _ (fun v1_12 z13 z14 z15 g16 => ?_) fuel0 (-1) 0 0 h (none)
  refine y_iload_n (q := 52) rfl rfl rfl ?_
  exact y_retI rfl (by decide) rfl rfl
def f_X4_put (v1 : Int32) (h : dH) : Option (Int32 × dH) := if (h 1 0).toInt < 160 then (if 0 ≤ (h 1 0).toInt ∧ (h 1 0).toInt < 160 then (oH (dU h 5 ((h 1 0).toInt.toNat) v1) (fun g3 => oH (dU g3 1 0 ((g3 1 0) + 1)) (fun g5 => some (1, g5)))) else none) else (some (0, h))
theorem m_X4_put {d : Nat} (hd : 1 ≤ d) (v1 : Int32) (h : dH) : dX shC d 47 [.ref 1, .int v1] dI (f_X4_put v1 h) h := by
  obtain ⟨e, rfl⟩ : ∃ e, d = e + 1 := ⟨d - 1, by omega⟩
  have hd : 0 ≤ e := by omega
  refine dX_of (mj := mj47) (lo := [some (.ref 1), some (.int v1)]) rfl (Nat.le_of_ble_eq_true rfl) rfl ?_
  unfold f_X4_put
  refine y_aload_n (q := 1) rfl rfl rfl ?_
  refine y_getI (q := 4) rfl rfl (by decide) atC1 rfl rfl ?_
  refine y_sipush (x := 160) (q := 7) rfl (by decide) rfl ?_
  refine y_lt (q := 12) (q' := 10) rfl rfl (by decide) rfl rfl (fun c1 => ?_) (fun c2 => ?_)
  · skip
    refine y_aload_n (q := 13) rfl rfl rfl ?_
    refine y_getR (b := 5) (q := 16) rfl rfl (by decide) atC1 rfl rfl ?_
    refine y_aload_n (q := 17) rfl rfl rfl ?_
    refine y_getI (q := 20) rfl rfl (by decide) atC1 rfl rfl ?_
    refine y_iload_n (q := 21) rfl rfl rfl ?_
    refine y_guard (fun c4 => ?_)
    refine y_iast (n := 160) (N := 160) (X := (h 1 0).toInt) (K := (h 1 0).toInt.toNat) (q := 22) rfl atC5 rfl rfl c4 rfl rfl (fun g3 => ?_)
    refine y_aload_n (q := 23) rfl rfl rfl ?_
    refine y_dup (q := 24) rfl rfl ?_
    refine y_getI (q := 27) rfl rfl (by decide) atC1 rfl rfl ?_
    refine y_iconst (x := 1) (q := 28) rfl (by decide) rfl ?_
    refine y_iadd (q := 29) rfl rfl ?_
    refine y_putI (q := 32) rfl rfl (by decide) atC1 rfl rfl rfl rfl (fun g5 => ?_)
    refine y_iconst (x := 1) (q := 33) rfl (by decide) rfl ?_
    exact y_retI rfl (by decide) rfl rfl
  · skip
    refine y_iconst (x := 0) (q := 11) rfl (by decide) rfl ?_
    exact y_retI rfl (by decide) rfl rfl
def f_X4_empty  (h : dH) : Option (dH) := oH (dU h 1 0 0) (fun g1 => some g1)
theorem m_X4_empty {d : Nat} (hd : 1 ≤ d)  (h : dH) : dX shC d 48 [.ref 1] dV (f_X4_empty  h) h := by
  obtain ⟨e, rfl⟩ : ∃ e, d = e + 1 := ⟨d - 1, by omega⟩
  have hd : 0 ≤ e := by omega
  refine dX_of (mj := mj48) (lo := [some (.ref 1)]) rfl (Nat.le_of_ble_eq_true rfl) rfl ?_
  unfold f_X4_empty
  refine y_aload_n (q := 1) rfl rfl rfl ?_
  refine y_iconst (x := 0) (q := 2) rfl (by decide) rfl ?_
  refine y_putI (q := 5) rfl rfl (by decide) atC1 rfl rfl rfl rfl (fun g1 => ?_)
  exact y_retV rfl rfl rfl
end
end

section
/-! X1_fail, X1_next, X1_expect, X1_levelOf, X1_opens, X1_operationOf, X1_readOne, X1_read, X1_readPart, X1_readInto (by program) -/
noncomputable section
def f_X1_fail  (h : dH) : Option (dH) := if (h 42 4).toInt = (-1) then (if 0 ≤ (h 42 2).toInt ∧ (h 42 2).toInt < 161 then (oH (dU h 42 4 (h 3 ((h 42 2).toInt.toNat))) (fun g4 => oH (dU g4 42 3 301) (fun g5 => some g5))) else none) else (oH (dU h 42 3 301) (fun g6 => some g6))
theorem m_X1_fail {d : Nat} (hd : 1 ≤ d)  (h : dH) : dX shC d 18 [.ref 42] dV (f_X1_fail  h) h := by
  obtain ⟨e, rfl⟩ : ∃ e, d = e + 1 := ⟨d - 1, by omega⟩
  have hd : 0 ≤ e := by omega
  refine dX_of (mj := mj18) (lo := [some (.ref 42)]) rfl (Nat.le_of_ble_eq_true rfl) rfl ?_
  unfold f_X1_fail
  refine y_aload_n (q := 1) rfl rfl rfl ?_
  refine y_getI (q := 4) rfl rfl (by decide) atC42 rfl rfl ?_
  refine y_iconst (x := (-1)) (q := 5) rfl (by decide) rfl ?_
  refine y_ne (q := 24) (q' := 8) rfl rfl (by decide) rfl rfl (fun c1 => ?_) (fun c2 => ?_)
  · skip
    refine y_aload_n (q := 9) rfl rfl rfl ?_
    refine y_aload_n (q := 10) rfl rfl rfl ?_
    refine y_getR (b := 1) (q := 13) rfl rfl (by decide) atC42 rfl rfl ?_
    refine y_getR (b := 3) (q := 16) rfl rfl (by decide) atC1 rfl rfl ?_
    refine y_aload_n (q := 17) rfl rfl rfl ?_
    refine y_getI (q := 20) rfl rfl (by decide) atC42 rfl rfl ?_
    refine y_guard (fun c3 => ?_)
    refine y_iald (n := 161) (N := 161) (X := (h 42 2).toInt) (K := (h 42 2).toInt.toNat) (q := 21) hbC rfl atC3 rfl rfl c3 rfl rfl ?_
    refine y_putI (q := 24) rfl rfl (by decide) atC42 rfl rfl rfl rfl (fun g4 => ?_)
    refine y_aload_n (q := 25) rfl rfl rfl ?_
    refine y_sipush (x := 301) (q := 28) rfl (by decide) rfl ?_
    refine y_putI (q := 31) rfl rfl (by decide) atC42 rfl rfl rfl rfl (fun g5 => ?_)
    exact y_retV rfl rfl rfl
  · skip
    refine y_aload_n (q := 25) rfl rfl rfl ?_
    refine y_sipush (x := 301) (q := 28) rfl (by decide) rfl ?_
    refine y_putI (q := 31) rfl rfl (by decide) atC42 rfl rfl rfl rfl (fun g6 => ?_)
    exact y_retV rfl rfl rfl
def f_X1_next  (h : dH) : Option (dH) := if (h 42 2).toInt < 160 then (oH (dU h 42 2 ((h 42 2) + 1)) (fun g3 => if 0 ≤ (g3 42 2).toInt ∧ (g3 42 2).toInt < 161 then (oH (dU g3 42 3 (g3 2 ((g3 42 2).toInt.toNat))) (fun g5 => some g5)) else none)) else (some h)
theorem m_X1_next {d : Nat} (hd : 1 ≤ d)  (h : dH) : dX shC d 17 [.ref 42] dV (f_X1_next  h) h := by
  obtain ⟨e, rfl⟩ : ∃ e, d = e + 1 := ⟨d - 1, by omega⟩
  have hd : 0 ≤ e := by omega
  refine dX_of (mj := mj17) (lo := [some (.ref 42)]) rfl (Nat.le_of_ble_eq_true rfl) rfl ?_
  unfold f_X1_next
  refine y_aload_n (q := 1) rfl rfl rfl ?_
  refine y_getI (q := 4) rfl rfl (by decide) atC42 rfl rfl ?_
  refine y_sipush (x := 160) (q := 7) rfl (by decide) rfl ?_
  refine y_ge (q := 36) (q' := 10) rfl rfl (by decide) rfl rfl (fun c1 => ?_) (fun c2 => ?_)
  · skip
    refine y_aload_n (q := 11) rfl rfl rfl ?_
    refine y_dup (q := 12) rfl rfl ?_
    refine y_getI (q := 15) rfl rfl (by decide) atC42 rfl rfl ?_
    refine y_iconst (x := 1) (q := 16) rfl (by decide) rfl ?_
    refine y_iadd (q := 17) rfl rfl ?_
    refine y_putI (q := 20) rfl rfl (by decide) atC42 rfl rfl rfl rfl (fun g3 => ?_)
    refine y_aload_n (q := 21) rfl rfl rfl ?_
    refine y_aload_n (q := 22) rfl rfl rfl ?_
    refine y_getR (b := 1) (q := 25) rfl rfl (by decide) atC42 rfl rfl ?_
    refine y_getR (b := 2) (q := 28) rfl rfl (by decide) atC1 rfl rfl ?_
    refine y_aload_n (q := 29) rfl rfl rfl ?_
    refine y_getI (q := 32) rfl rfl (by decide) atC42 rfl rfl ?_
    refine y_guard (fun c4 => ?_)
    refine y_iald (n := 161) (N := 161) (X := (g3 42 2).toInt) (K := (g3 42 2).toInt.toNat) (q := 33) hbC rfl atC2 rfl rfl c4 rfl rfl ?_
    refine y_putI (q := 36) rfl rfl (by decide) atC42 rfl rfl rfl rfl (fun g5 => ?_)
    exact y_retV rfl rfl rfl
  · skip
    exact y_retV rfl rfl rfl
def f_X1_expect (v1 : Int32) (h : dH) : Option (dH) := if (h 42 3).toInt = v1.toInt then (oV (f_X1_next  h) (fun g3 => some g3)) else (oV (f_X1_fail  h) (fun g4 => some g4))
theorem m_X1_expect {d : Nat} (hd : 2 ≤ d) (v1 : Int32) (h : dH) : dX shC d 16 [.ref 42, .int v1] dV (f_X1_expect v1 h) h := by
  obtain ⟨e, rfl⟩ : ∃ e, d = e + 1 := ⟨d - 1, by omega⟩
  have hd : 1 ≤ e := by omega
  refine dX_of (mj := mj16) (lo := [some (.ref 42), some (.int v1)]) rfl (Nat.le_of_ble_eq_true rfl) rfl ?_
  unfold f_X1_expect
  refine y_aload_n (q := 1) rfl rfl rfl ?_
  refine y_getI (q := 4) rfl rfl (by decide) atC42 rfl rfl ?_
  refine y_iload_n (q := 5) rfl rfl rfl ?_
  refine y_ne (q := 15) (q' := 8) rfl rfl rfl rfl rfl (fun c1 => ?_) (fun c2 => ?_)
  · skip
    refine y_aload_n (q := 9) rfl rfl rfl ?_
    refine y_callV (I := .invokevirtual 77) (idx := 77) (KD := 1) (J := 27) (mj := mj17) (as := [.ref 42]) (r := []) (q := 12) rfl (fun _ _ _ _ _ _ => rfl) rfl (by decide) rfl rfl rfl rfl rfl (Nat.le_of_ble_eq_true rfl) (d_recv atC42 (by decide) (by decide)) rfl (m_X1_next (Nat.le_trans (by decide) hd)  h) (fun g3 => ?_)
    refine y_goto (q := 19) rfl rfl ?_
    exact y_retV rfl rfl rfl
  · skip
    refine y_aload_n (q := 16) rfl rfl rfl ?_
    refine y_callV (I := .invokevirtual 47) (idx := 47) (KD := 1) (J := 28) (mj := mj18) (as := [.ref 42]) (r := []) (q := 19) rfl (fun _ _ _ _ _ _ => rfl) rfl (by decide) rfl rfl rfl rfl rfl (Nat.le_of_ble_eq_true rfl) (d_recv atC42 (by decide) (by decide)) rfl (m_X1_fail (Nat.le_trans (by decide) hd)  h) (fun g4 => ?_)
    exact y_retV rfl rfl rfl
def f_X1_levelOf (v0 : Int32) : Option (Int32) := if v0.toInt = 42 then ((some 4)) else (if v0.toInt = 43 then ((some 3)) else (if v0.toInt = 45 then ((some 3)) else (if v0.toInt = 60 then ((some 2)) else (if v0.toInt = 61 then ((some 2)) else (if v0.toInt = 307 then ((some 0)) else (if v0.toInt = 308 then ((some 1)) else ((some (-1)))))))))
theorem m_X1_levelOf {d : Nat} (hd : 1 ≤ d) (v0 : Int32) (h : dH) : dX shC d 19 [.int v0] (dP h) (f_X1_levelOf v0) h := by
  obtain ⟨e, rfl⟩ : ∃ e, d = e + 1 := ⟨d - 1, by omega⟩
  have hd : 0 ≤ e := by omega
  refine dX_of (mj := mj19) (lo := [some (.int v0)]) rfl (Nat.le_of_ble_eq_true rfl) rfl ?_
  unfold f_X1_levelOf
  refine y_iload_n (q := 1) rfl rfl rfl ?_
  refine dY_ite (fun c1 => ?_) (fun c2 => ?_)
  · skip
    refine y_look (off := 75) (q := 76) rfl (by decide) (by rw [c1]; rfl) rfl ?_
    refine y_iconst (x := 4) (q := 77) rfl (by decide) rfl ?_
    exact y_retP rfl (by decide) rfl rfl
  refine dY_ite (fun c3 => ?_) (fun c4 => ?_)
  · skip
    refine y_look (off := 73) (q := 74) rfl (by decide) (by rw [c3]; rfl) rfl ?_
    refine y_iconst (x := 3) (q := 75) rfl (by decide) rfl ?_
    exact y_retP rfl (by decide) rfl rfl
  refine dY_ite (fun c5 => ?_) (fun c6 => ?_)
  · skip
    refine y_look (off := 73) (q := 74) rfl (by decide) (by rw [c5]; rfl) rfl ?_
    refine y_iconst (x := 3) (q := 75) rfl (by decide) rfl ?_
    exact y_retP rfl (by decide) rfl rfl
  refine dY_ite (fun c7 => ?_) (fun c8 => ?_)
  · skip
    refine y_look (off := 71) (q := 72) rfl (by decide) (by rw [c7]; rfl) rfl ?_
    refine y_iconst (x := 2) (q := 73) rfl (by decide) rfl ?_
    exact y_retP rfl (by decide) rfl rfl
  refine dY_ite (fun c9 => ?_) (fun c10 => ?_)
  · skip
    refine y_look (off := 71) (q := 72) rfl (by decide) (by rw [c9]; rfl) rfl ?_
    refine y_iconst (x := 2) (q := 73) rfl (by decide) rfl ?_
    exact y_retP rfl (by decide) rfl rfl
  refine dY_ite (fun c11 => ?_) (fun c12 => ?_)
  · skip
    refine y_look (off := 67) (q := 68) rfl (by decide) (by rw [c11]; rfl) rfl ?_
    refine y_iconst (x := 0) (q := 69) rfl (by decide) rfl ?_
    exact y_retP rfl (by decide) rfl rfl
  refine dY_ite (fun c13 => ?_) (fun c14 => ?_)
  · skip
    refine y_look (off := 69) (q := 70) rfl (by decide) (by rw [c13]; rfl) rfl ?_
    refine y_iconst (x := 1) (q := 71) rfl (by decide) rfl ?_
    exact y_retP rfl (by decide) rfl rfl
  refine y_look (off := 77) (q := 78) rfl (by decide) (dlook_none (by simp [c2, c4, c6, c8, c10, c12, c14])) rfl ?_
  refine y_iconst (x := (-1)) (q := 79) rfl (by decide) rfl ?_
  exact y_retP rfl (by decide) rfl rfl
def f_X1_opens (v1 : Int32) (h : dH) : Option (Int32 × dH) := if v1.toInt < 5 then (oV (f_X1_next  h) (fun g3 => some (1, g3))) else (oV (f_X1_fail  h) (fun g4 => some (0, g4)))
theorem m_X1_opens {d : Nat} (hd : 2 ≤ d) (v1 : Int32) (h : dH) : dX shC d 15 [.ref 42, .int v1] dI (f_X1_opens v1 h) h := by
  obtain ⟨e, rfl⟩ : ∃ e, d = e + 1 := ⟨d - 1, by omega⟩
  have hd : 1 ≤ e := by omega
  refine dX_of (mj := mj15) (lo := [some (.ref 42), some (.int v1)]) rfl (Nat.le_of_ble_eq_true rfl) rfl ?_
  unfold f_X1_opens
  refine y_iload_n (q := 1) rfl rfl rfl ?_
  refine y_iconst (x := 5) (q := 2) rfl (by decide) rfl ?_
  refine y_lt (q := 11) (q' := 5) rfl rfl (by decide) rfl rfl (fun c1 => ?_) (fun c2 => ?_)
  · skip
    refine y_aload_n (q := 12) rfl rfl rfl ?_
    refine y_callV (I := .invokevirtual 77) (idx := 77) (KD := 1) (J := 27) (mj := mj17) (as := [.ref 42]) (r := []) (q := 15) rfl (fun _ _ _ _ _ _ => rfl) rfl (by decide) rfl rfl rfl rfl rfl (Nat.le_of_ble_eq_true rfl) (d_recv atC42 (by decide) (by decide)) rfl (m_X1_next (Nat.le_trans (by decide) hd)  h) (fun g3 => ?_)
    refine y_iconst (x := 1) (q := 16) rfl (by decide) rfl ?_
    exact y_retI rfl (by decide) rfl rfl
  · skip
    refine y_aload_n (q := 6) rfl rfl rfl ?_
    refine y_callV (I := .invokevirtual 47) (idx := 47) (KD := 1) (J := 28) (mj := mj18) (as := [.ref 42]) (r := []) (q := 9) rfl (fun _ _ _ _ _ _ => rfl) rfl (by decide) rfl rfl rfl rfl rfl (Nat.le_of_ble_eq_true rfl) (d_recv atC42 (by decide) (by decide)) rfl (m_X1_fail (Nat.le_trans (by decide) hd)  h) (fun g4 => ?_)
    refine y_iconst (x := 0) (q := 10) rfl (by decide) rfl ?_
    exact y_retI rfl (by decide) rfl rfl
def f_X1_operationOf (v0 : Int32) : Option (Int32) := if v0.toInt = 43 then ((some (-11))) else (if v0.toInt = 45 then ((some (-12))) else (if v0.toInt = 60 then ((some (-9))) else (if v0.toInt = 61 then ((some (-10))) else (if v0.toInt = 307 then ((some (-7))) else (if v0.toInt = 308 then ((some (-8))) else ((some (-13))))))))
theorem m_X1_operationOf {d : Nat} (hd : 1 ≤ d) (v0 : Int32) (h : dH) : dX shC d 20 [.int v0] (dP h) (f_X1_operationOf v0) h := by
  obtain ⟨e, rfl⟩ : ∃ e, d = e + 1 := ⟨d - 1, by omega⟩
  have hd : 0 ≤ e := by omega
  refine dX_of (mj := mj20) (lo := [some (.int v0)]) rfl (Nat.le_of_ble_eq_true rfl) rfl ?_
  unfold f_X1_operationOf
  refine y_iload_n (q := 1) rfl rfl rfl ?_
  refine dY_ite (fun c1 => ?_) (fun c2 => ?_)
  · skip
    refine y_look (off := 71) (q := 72) rfl (by decide) (by rw [c1]; rfl) rfl ?_
    refine y_bipush (x := (-11)) (q := 74) rfl (by decide) rfl ?_
    exact y_retP rfl (by decide) rfl rfl
  refine dY_ite (fun c3 => ?_) (fun c4 => ?_)
  · skip
    refine y_look (off := 74) (q := 75) rfl (by decide) (by rw [c3]; rfl) rfl ?_
    refine y_bipush (x := (-12)) (q := 77) rfl (by decide) rfl ?_
    exact y_retP rfl (by decide) rfl rfl
  refine dY_ite (fun c5 => ?_) (fun c6 => ?_)
  · skip
    refine y_look (off := 65) (q := 66) rfl (by decide) (by rw [c5]; rfl) rfl ?_
    refine y_bipush (x := (-9)) (q := 68) rfl (by decide) rfl ?_
    exact y_retP rfl (by decide) rfl rfl
  refine dY_ite (fun c7 => ?_) (fun c8 => ?_)
  · skip
    refine y_look (off := 68) (q := 69) rfl (by decide) (by rw [c7]; rfl) rfl ?_
    refine y_bipush (x := (-10)) (q := 71) rfl (by decide) rfl ?_
    exact y_retP rfl (by decide) rfl rfl
  refine dY_ite (fun c9 => ?_) (fun c10 => ?_)
  · skip
    refine y_look (off := 59) (q := 60) rfl (by decide) (by rw [c9]; rfl) rfl ?_
    refine y_bipush (x := (-7)) (q := 62) rfl (by decide) rfl ?_
    exact y_retP rfl (by decide) rfl rfl
  refine dY_ite (fun c11 => ?_) (fun c12 => ?_)
  · skip
    refine y_look (off := 62) (q := 63) rfl (by decide) (by rw [c11]; rfl) rfl ?_
    refine y_bipush (x := (-8)) (q := 65) rfl (by decide) rfl ?_
    exact y_retP rfl (by decide) rfl rfl
  refine y_look (off := 77) (q := 78) rfl (by decide) (dlook_none (by simp [c2, c4, c6, c8, c10, c12])) rfl ?_
  refine y_bipush (x := (-13)) (q := 80) rfl (by decide) rfl ?_
  exact y_retP rfl (by decide) rfl rfl
def f_X1_readOne (rec : Int32 → Int32 → dH → Option dH) : Nat → Int32 → dH → Option dH
  | 0, _, _ => none
  | n + 1, v1, h => if (h 42 3).toInt = 302 then (if 0 ≤ (h 42 2).toInt ∧ (h 42 2).toInt < 161 then (oV (f_X5_write (dtx (h 42 1)) (h 4 ((h 42 2).toInt.toNat)) h) (fun g4 => oV (f_X1_next  g4) (fun g5 => some g5))) else none) else (if (h 42 3).toInt = 303 then (if 0 ≤ (h 42 2).toInt ∧ (h 42 2).toInt < 161 then (oV (f_X5_write (dtx (h 42 1)) (h 4 ((h 42 2).toInt.toNat)) h) (fun g9 => oV (f_X1_next  g9) (fun g10 => some g10))) else none) else (if (h 42 3).toInt = 45 then (oI (f_X1_opens v1 h) (fun r13 g14 => if r13.toInt = 0 then (some g14) else (oV (f_X1_readOne rec n (v1 + 1) g14) (fun g17 => oV (f_X5_write (dtx (g17 42 1)) (-15) g17) (fun g18 => some g18))))) else (if (h 42 3).toInt = 40 then (oI (f_X1_opens v1 h) (fun r21 g22 => if r21.toInt = 0 then (some g22) else (oV (rec 0 (v1 + 1) g22) (fun g25 => oV (f_X1_expect 41 g25) (fun g26 => some g26))))) else (oV (f_X1_fail  h) (fun g27 => some g27)))))
theorem m_X1_readOne (rec : Int32 → Int32 → dH → Option dH) {D : Nat} (hrec : ∀ {e : Nat}, D ≤ e → ∀ a b g, dX shC e 13 [.ref 42, .int a, .int b] dV (rec a b g) g) : ∀ {n : Nat} {d : Nat} (hd : D + n + 5 ≤ d) (v1 : Int32) (h : dH), dX shC d 14 [.ref 42, .int v1] dV (f_X1_readOne rec n v1 h) h
  | 0, _, _, _, _ => fun _ h => by cases h
  | n + 1, d, hd, v1, h => by
    have ih := @m_X1_readOne rec D hrec n
    obtain ⟨e, rfl⟩ : ∃ e, d = e + 1 := ⟨d - 1, by omega⟩
    have hd : D + n + 5 ≤ e := by omega
    refine dX_of (mj := mj14) (lo := [some (.ref 42), some (.int v1)]) rfl (Nat.le_of_ble_eq_true rfl) rfl ?_
    rw [f_X1_readOne]
    refine y_aload_n (q := 1) rfl rfl rfl ?_
    refine y_getI (q := 4) rfl rfl (by decide) atC42 rfl rfl ?_
    refine y_sipush (x := 302) (q := 7) rfl (by decide) rfl ?_
    refine y_eq (q := 20) (q' := 10) rfl rfl (by decide) rfl rfl (fun c1 => ?_) (fun c2 => ?_)
    · skip
      refine y_aload_n (q := 21) rfl rfl rfl ?_
      refine y_getT (q := 24) rfl rfl (by decide) atC42 rfl rfl ?_
      refine y_aload_n (q := 25) rfl rfl rfl ?_
      refine y_getR (b := 1) (q := 28) rfl rfl (by decide) atC42 rfl rfl ?_
      refine y_getR (b := 4) (q := 31) rfl rfl (by decide) atC1 rfl rfl ?_
      refine y_aload_n (q := 32) rfl rfl rfl ?_
      refine y_getI (q := 35) rfl rfl (by decide) atC42 rfl rfl ?_
      refine y_guard (fun c3 => ?_)
      refine y_iald (n := 161) (N := 161) (X := (h 42 2).toInt) (K := (h 42 2).toInt.toNat) (q := 36) hbC rfl atC4 rfl rfl c3 rfl rfl ?_
      refine y_callV (I := .invokevirtual 67) (idx := 67) (KD := 1) (J := 70) (mj := mj60) (as := [.ref (dtx (h 42 1)), .int (h 4 ((h 42 2).toInt.toNat))]) (r := []) (q := 39) rfl (fun _ _ _ _ _ _ => rfl) rfl (by decide) rfl rfl rfl rfl rfl (Nat.le_of_ble_eq_true rfl) (d_recv (shT (zT_dtx _)) (by decide) (by decide)) rfl (m_X5_write (by omega) (dtx (h 42 1)) (zT_dtx _) (h 4 ((h 42 2).toInt.toNat)) h) (fun g4 => ?_)
      refine y_aload_n (q := 40) rfl rfl rfl ?_
      refine y_callV (I := .invokevirtual 77) (idx := 77) (KD := 1) (J := 27) (mj := mj17) (as := [.ref 42]) (r := []) (q := 43) rfl (fun _ _ _ _ _ _ => rfl) rfl (by decide) rfl rfl rfl rfl rfl (Nat.le_of_ble_eq_true rfl) (d_recv atC42 (by decide) (by decide)) rfl (m_X1_next (by omega)  g4) (fun g5 => ?_)
      refine y_goto (q := 120) rfl rfl ?_
      exact y_retV rfl rfl rfl
    · skip
      refine y_aload_n (q := 11) rfl rfl rfl ?_
      refine y_getI (q := 14) rfl rfl (by decide) atC42 rfl rfl ?_
      refine y_sipush (x := 303) (q := 17) rfl (by decide) rfl ?_
      refine y_ne (q := 46) (q' := 20) rfl rfl (by decide) rfl rfl (fun c6 => ?_) (fun c7 => ?_)
      · skip
        refine y_aload_n (q := 21) rfl rfl rfl ?_
        refine y_getT (q := 24) rfl rfl (by decide) atC42 rfl rfl ?_
        refine y_aload_n (q := 25) rfl rfl rfl ?_
        refine y_getR (b := 1) (q := 28) rfl rfl (by decide) atC42 rfl rfl ?_
        refine y_getR (b := 4) (q := 31) rfl rfl (by decide) atC1 rfl rfl ?_
        refine y_aload_n (q := 32) rfl rfl rfl ?_
        refine y_getI (q := 35) rfl rfl (by decide) atC42 rfl rfl ?_
        refine y_guard (fun c8 => ?_)
        refine y_iald (n := 161) (N := 161) (X := (h 42 2).toInt) (K := (h 42 2).toInt.toNat) (q := 36) hbC rfl atC4 rfl rfl c8 rfl rfl ?_
        refine y_callV (I := .invokevirtual 67) (idx := 67) (KD := 1) (J := 70) (mj := mj60) (as := [.ref (dtx (h 42 1)), .int (h 4 ((h 42 2).toInt.toNat))]) (r := []) (q := 39) rfl (fun _ _ _ _ _ _ => rfl) rfl (by decide) rfl rfl rfl rfl rfl (Nat.le_of_ble_eq_true rfl) (d_recv (shT (zT_dtx _)) (by decide) (by decide)) rfl (m_X5_write (by omega) (dtx (h 42 1)) (zT_dtx _) (h 4 ((h 42 2).toInt.toNat)) h) (fun g9 => ?_)
        refine y_aload_n (q := 40) rfl rfl rfl ?_
        refine y_callV (I := .invokevirtual 77) (idx := 77) (KD := 1) (J := 27) (mj := mj17) (as := [.ref 42]) (r := []) (q := 43) rfl (fun _ _ _ _ _ _ => rfl) rfl (by decide) rfl rfl rfl rfl rfl (Nat.le_of_ble_eq_true rfl) (d_recv atC42 (by decide) (by decide)) rfl (m_X1_next (by omega)  g9) (fun g10 => ?_)
        refine y_goto (q := 120) rfl rfl ?_
        exact y_retV rfl rfl rfl
      · skip
        refine y_aload_n (q := 47) rfl rfl rfl ?_
        refine y_getI (q := 50) rfl rfl (by decide) atC42 rfl rfl ?_
        refine y_bipush (x := 45) (q := 52) rfl (by decide) rfl ?_
        refine y_ne (q := 82) (q' := 55) rfl rfl (by decide) rfl rfl (fun c11 => ?_) (fun c12 => ?_)
        · skip
          refine y_aload_n (q := 56) rfl rfl rfl ?_
          refine y_iload_n (q := 57) rfl rfl rfl ?_
          refine y_callI (I := .invokevirtual 63) (idx := 63) (KD := 1) (J := 25) (mj := mj15) (as := [.ref 42, .int v1]) (r := []) (q := 60) rfl (fun _ _ _ _ _ _ => rfl) rfl (by decide) rfl rfl rfl rfl rfl (Nat.le_of_ble_eq_true rfl) (d_recv atC42 (by decide) (by decide)) rfl (m_X1_opens (by omega) v1 h) (fun r13 g14 => ?_)
          refine y_eq0 (q := 120) (q' := 63) rfl rfl rfl rfl (fun c15 => ?_) (fun c16 => ?_)
          · skip
            exact y_retV rfl rfl rfl
          · skip
            refine y_aload_n (q := 64) rfl rfl rfl ?_
            refine y_iload_n (q := 65) rfl rfl rfl ?_
            refine y_iconst (x := 1) (q := 66) rfl (by decide) rfl ?_
            refine y_iadd (q := 67) rfl rfl ?_
            refine y_callV (I := .invokevirtual 60) (idx := 60) (KD := 1) (J := 24) (mj := mj14) (as := [.ref 42, .int (v1 + 1)]) (r := []) (q := 70) rfl (fun _ _ _ _ _ _ => rfl) rfl (by decide) rfl rfl rfl rfl rfl (Nat.le_of_ble_eq_true rfl) (d_recv atC42 (by decide) (by decide)) rfl (ih (by omega) (v1 + 1) g14) (fun g17 => ?_)
            refine y_aload_n (q := 71) rfl rfl rfl ?_
            refine y_getT (q := 74) rfl rfl (by decide) atC42 rfl rfl ?_
            refine y_bipush (x := (-15)) (q := 76) rfl (by decide) rfl ?_
            refine y_callV (I := .invokevirtual 67) (idx := 67) (KD := 1) (J := 70) (mj := mj60) (as := [.ref (dtx (g17 42 1)), .int (-15)]) (r := []) (q := 79) rfl (fun _ _ _ _ _ _ => rfl) rfl (by decide) rfl rfl rfl rfl rfl (Nat.le_of_ble_eq_true rfl) (d_recv (shT (zT_dtx _)) (by decide) (by decide)) rfl (m_X5_write (by omega) (dtx (g17 42 1)) (zT_dtx _) (-15) g17) (fun g18 => ?_)
            refine y_goto (q := 120) rfl rfl ?_
            exact y_retV rfl rfl rfl
        · skip
          refine y_aload_n (q := 83) rfl rfl rfl ?_
          refine y_getI (q := 86) rfl rfl (by decide) atC42 rfl rfl ?_
          refine y_bipush (x := 40) (q := 88) rfl (by decide) rfl ?_
          refine y_ne (q := 116) (q' := 91) rfl rfl (by decide) rfl rfl (fun c19 => ?_) (fun c20 => ?_)
          · skip
            refine y_aload_n (q := 92) rfl rfl rfl ?_
            refine y_iload_n (q := 93) rfl rfl rfl ?_
            refine y_callI (I := .invokevirtual 63) (idx := 63) (KD := 1) (J := 25) (mj := mj15) (as := [.ref 42, .int v1]) (r := []) (q := 96) rfl (fun _ _ _ _ _ _ => rfl) rfl (by decide) rfl rfl rfl rfl rfl (Nat.le_of_ble_eq_true rfl) (d_recv atC42 (by decide) (by decide)) rfl (m_X1_opens (by omega) v1 h) (fun r21 g22 => ?_)
            refine y_eq0 (q := 120) (q' := 99) rfl rfl rfl rfl (fun c23 => ?_) (fun c24 => ?_)
            · skip
              exact y_retV rfl rfl rfl
            · skip
              refine y_aload_n (q := 100) rfl rfl rfl ?_
              refine y_iconst (x := 0) (q := 101) rfl (by decide) rfl ?_
              refine y_iload_n (q := 102) rfl rfl rfl ?_
              refine y_iconst (x := 1) (q := 103) rfl (by decide) rfl ?_
              refine y_iadd (q := 104) rfl rfl ?_
              refine y_callV (I := .invokevirtual 54) (idx := 54) (KD := 1) (J := 23) (mj := mj13) (as := [.ref 42, .int 0, .int (v1 + 1)]) (r := []) (q := 107) rfl (fun _ _ _ _ _ _ => rfl) rfl (by decide) rfl rfl rfl rfl rfl (Nat.le_of_ble_eq_true rfl) (d_recv atC42 (by decide) (by decide)) rfl (hrec (by omega) 0 (v1 + 1) g22) (fun g25 => ?_)
              refine y_aload_n (q := 108) rfl rfl rfl ?_
              refine y_bipush (x := 41) (q := 110) rfl (by decide) rfl ?_
              refine y_callV (I := .invokevirtual 50) (idx := 50) (KD := 1) (J := 26) (mj := mj16) (as := [.ref 42, .int 41]) (r := []) (q := 113) rfl (fun _ _ _ _ _ _ => rfl) rfl (by decide) rfl rfl rfl rfl rfl (Nat.le_of_ble_eq_true rfl) (d_recv atC42 (by decide) (by decide)) rfl (m_X1_expect (by omega) 41 g25) (fun g26 => ?_)
              refine y_goto (q := 120) rfl rfl ?_
              exact y_retV rfl rfl rfl
          · skip
            refine y_aload_n (q := 117) rfl rfl rfl ?_
            refine y_callV (I := .invokevirtual 47) (idx := 47) (KD := 1) (J := 28) (mj := mj18) (as := [.ref 42]) (r := []) (q := 120) rfl (fun _ _ _ _ _ _ => rfl) rfl (by decide) rfl rfl rfl rfl rfl (Nat.le_of_ble_eq_true rfl) (d_recv atC42 (by decide) (by decide)) rfl (m_X1_fail (by omega)  h) (fun g27 => ?_)
            exact y_retV rfl rfl rfl
def l_X1_read_76 (rec : Int32 → Int32 → dH → Option dH) (v1 : Int32) (v2 : Int32) (v3 : Int32) (k : dH → Option (dH)) : Nat → Int32 → dH → Option (dH)
  | 0, _, _ => none
  | n + 1, v4, h => if v4.toInt < v3.toInt then (oP (f_X1_levelOf (h 42 3)) (fun r19 => if r19.toInt = v1.toInt then (oP (f_X1_operationOf (h 42 3)) (fun r22 => oV (f_X1_next  h) (fun g23 => oV (rec (v1 + 1) v2 g23) (fun g24 => oV (f_X5_write (dtx (g24 42 1)) r22 g24) (fun g25 => l_X1_read_76 rec v1 v2 v3 k n (v4 + 1) g25))))) else (k  h))) else (k  h)
theorem lz_X1_read_76 {d D : Nat} (hd : D + 20 ≤ d) (rec : Int32 → Int32 → dH → Option dH) (hrec : ∀ {e : Nat}, D ≤ e → ∀ a b g, dX shC e 13 [.ref 42, .int a, .int b] dV (rec a b g) g) (v1 : Int32) (v2 : Int32) (v3 : Int32) (k : dH → Option (dH)) (hk : ∀ (w4 : Int32) (z5 : Option Value) (h : dH), dY shC d mj13 dV (k h) 129 [some (.ref 42), some (.int v1), some (.int v2), some (.int v3), some (.int w4), z5] [] h) : ∀ (n : Nat) (v4 : Int32) (h : dH) (z5 : Option Value), dY shC d mj13 dV (l_X1_read_76 rec v1 v2 v3 k n v4 h) 76 [some (.ref 42), some (.int v1), some (.int v2), some (.int v3), some (.int v4), z5] [] h
  | 0, _, _, _ => dY_none
  | n + 1, v4, h, z5 => by
    rw [l_X1_read_76]
    refine y_iload (q := 78) rfl rfl rfl ?_
    refine y_iload_n (q := 79) rfl rfl rfl ?_
    refine y_ge (q := 129) (q' := 82) rfl rfl rfl rfl rfl (fun c17 => ?_) (fun c18 => ?_)
    · skip
      refine y_aload_n (q := 83) rfl rfl rfl ?_
      refine y_getI (q := 86) rfl rfl (by decide) atC42 rfl rfl ?_
      refine y_callP (I := .invokestatic 70) (idx := 70) (KD := 0) (J := 29) (mj := mj19) (as := [.int (h 42 3)]) (r := []) (q := 89) rfl (fun _ _ _ _ _ _ => rfl) rfl (by decide) rfl rfl rfl rfl rfl (Nat.le_of_ble_eq_true rfl) rfl rfl (m_X1_levelOf (by omega) (h 42 3) h) (fun r19 => ?_)
      refine y_iload_n (q := 90) rfl rfl rfl ?_
      refine y_ne (q := 129) (q' := 93) rfl rfl rfl rfl rfl (fun c20 => ?_) (fun c21 => ?_)
      · skip
        refine y_aload_n (q := 94) rfl rfl rfl ?_
        refine y_getI (q := 97) rfl rfl (by decide) atC42 rfl rfl ?_
        refine y_callP (I := .invokestatic 74) (idx := 74) (KD := 0) (J := 30) (mj := mj20) (as := [.int (h 42 3)]) (r := []) (q := 100) rfl (fun _ _ _ _ _ _ => rfl) rfl (by decide) rfl rfl rfl rfl rfl (Nat.le_of_ble_eq_true rfl) rfl rfl (m_X1_operationOf (by omega) (h 42 3) h) (fun r22 => ?_)
        refine y_istore (lo' := [some (.ref 42), some (.int v1), some (.int v2), some (.int v3), some (.int v4), some (.int r22)]) (q := 102) rfl (Nat.le_of_ble_eq_true rfl) rfl rfl ?_
        refine y_aload_n (q := 103) rfl rfl rfl ?_
        refine y_callV (I := .invokevirtual 77) (idx := 77) (KD := 1) (J := 27) (mj := mj17) (as := [.ref 42]) (r := []) (q := 106) rfl (fun _ _ _ _ _ _ => rfl) rfl (by decide) rfl rfl rfl rfl rfl (Nat.le_of_ble_eq_true rfl) (d_recv atC42 (by decide) (by decide)) rfl (m_X1_next (by omega)  h) (fun g23 => ?_)
        refine y_aload_n (q := 107) rfl rfl rfl ?_
        refine y_iload_n (q := 108) rfl rfl rfl ?_
        refine y_iconst (x := 1) (q := 109) rfl (by decide) rfl ?_
        refine y_iadd (q := 110) rfl rfl ?_
        refine y_iload_n (q := 111) rfl rfl rfl ?_
        refine y_callV (I := .invokevirtual 54) (idx := 54) (KD := 1) (J := 23) (mj := mj13) (as := [.ref 42, .int (v1 + 1), .int v2]) (r := []) (q := 114) rfl (fun _ _ _ _ _ _ => rfl) rfl (by decide) rfl rfl rfl rfl rfl (Nat.le_of_ble_eq_true rfl) (d_recv atC42 (by decide) (by decide)) rfl (hrec (by omega) (v1 + 1) v2 g23) (fun g24 => ?_)
        refine y_aload_n (q := 115) rfl rfl rfl ?_
        refine y_getT (q := 118) rfl rfl (by decide) atC42 rfl rfl ?_
        refine y_iload (q := 120) rfl rfl rfl ?_
        refine y_callV (I := .invokevirtual 67) (idx := 67) (KD := 1) (J := 70) (mj := mj60) (as := [.ref (dtx (g24 42 1)), .int r22]) (r := []) (q := 123) rfl (fun _ _ _ _ _ _ => rfl) rfl (by decide) rfl rfl rfl rfl rfl (Nat.le_of_ble_eq_true rfl) (d_recv (shT (zT_dtx _)) (by decide) (by decide)) rfl (m_X5_write (by omega) (dtx (g24 42 1)) (zT_dtx _) r22 g24) (fun g25 => ?_)
        refine y_iinc (z := (v4 + 1)) (lo' := [some (.ref 42), some (.int v1), some (.int v2), some (.int v3), some (.int (v4 + 1)), some (.int r22)]) (q := 126) rfl rfl (Nat.le_of_ble_eq_true rfl) (by rw [oi_1]) rfl rfl ?_
        refine y_goto (q := 76) rfl rfl ?_
        exact lz_X1_read_76 hd rec hrec v1 v2 v3 k hk n (v4 + 1) g25 (some (.int r22))
      · skip
        exact hk  v4 (z5) h
    · skip
      exact hk  v4 (z5) h
def f_X1_readB (rec : Int32 → Int32 → dH → Option dH) (v1 v2 : Int32) (h : dH) : Option dH := if 4 < v1.toInt then (oV (f_X1_readOne rec 10 v2 h) (fun g3 => some g3)) else (if v1.toInt = 2 then (if (h 42 3).toInt = 309 then (oI (f_X1_opens v2 h) (fun r8 g9 => if r8.toInt = 0 then (some g9) else (oV (rec 2 (v2 + 1) g9) (fun g12 => oV (f_X5_write (dtx (g12 42 1)) (-14) g12) (fun g13 => some g13))))) else (oV (rec (v1 + 1) v2 h) (fun g14 => if v1.toInt = 2 then (l_X1_read_76 rec v1 v2 1  (fun g28 => some g28) fuel0 0 g14) else (l_X1_read_76 rec v1 v2 160  (fun g31 => some g31) fuel0 0 g14)))) else (oV (rec (v1 + 1) v2 h) (fun g32 => if v1.toInt = 2 then (l_X1_read_76 rec v1 v2 1  (fun g37 => some g37) fuel0 0 g32) else (l_X1_read_76 rec v1 v2 160  (fun g40 => some g40) fuel0 0 g32))))
theorem m_X1_readB {D : Nat} (rec : Int32 → Int32 → dH → Option dH) (hrec : ∀ {e : Nat}, D ≤ e → ∀ a b g, dX shC e 13 [.ref 42, .int a, .int b] dV (rec a b g) g) {d : Nat} (hd : D + 21 ≤ d) (v1 v2 : Int32) (h : dH) : dX shC d 13 [.ref 42, .int v1, .int v2] dV (f_X1_readB rec v1 v2 h) h := by
  obtain ⟨e, rfl⟩ : ∃ e, d = e + 1 := ⟨d - 1, by omega⟩
  have hd : D + 20 ≤ e := by omega
  refine dX_of (mj := mj13) (lo := [some (.ref 42), some (.int v1), some (.int v2), none, none, none]) rfl (Nat.le_of_ble_eq_true rfl) rfl ?_
  unfold f_X1_readB
  refine y_iload_n (q := 1) rfl rfl rfl ?_
  refine y_iconst (x := 4) (q := 2) rfl (by decide) rfl ?_
  refine y_le (q := 11) (q' := 5) rfl rfl (by decide) rfl rfl (fun c1 => ?_) (fun c2 => ?_)
  · skip
    refine y_aload_n (q := 6) rfl rfl rfl ?_
    refine y_iload_n (q := 7) rfl rfl rfl ?_
    refine y_callV (I := .invokevirtual 60) (idx := 60) (KD := 1) (J := 24) (mj := mj14) (as := [.ref 42, .int v2]) (r := []) (q := 10) rfl (fun _ _ _ _ _ _ => rfl) rfl (by decide) rfl rfl rfl rfl rfl (Nat.le_of_ble_eq_true rfl) (d_recv atC42 (by decide) (by decide)) rfl (m_X1_readOne rec hrec (n := 10) (by omega) v2 h) (fun g3 => ?_)
    exact y_retV rfl rfl rfl
  · skip
    refine y_iload_n (q := 12) rfl rfl rfl ?_
    refine y_iconst (x := 2) (q := 13) rfl (by decide) rfl ?_
    refine y_ne (q := 52) (q' := 16) rfl rfl (by decide) rfl rfl (fun c4 => ?_) (fun c5 => ?_)
    · skip
      refine y_aload_n (q := 17) rfl rfl rfl ?_
      refine y_getI (q := 20) rfl rfl (by decide) atC42 rfl rfl ?_
      refine y_sipush (x := 309) (q := 23) rfl (by decide) rfl ?_
      refine y_ne (q := 52) (q' := 26) rfl rfl (by decide) rfl rfl (fun c6 => ?_) (fun c7 => ?_)
      · skip
        refine y_aload_n (q := 27) rfl rfl rfl ?_
        refine y_iload_n (q := 28) rfl rfl rfl ?_
        refine y_callI (I := .invokevirtual 63) (idx := 63) (KD := 1) (J := 25) (mj := mj15) (as := [.ref 42, .int v2]) (r := []) (q := 31) rfl (fun _ _ _ _ _ _ => rfl) rfl (by decide) rfl rfl rfl rfl rfl (Nat.le_of_ble_eq_true rfl) (d_recv atC42 (by decide) (by decide)) rfl (m_X1_opens (by omega) v2 h) (fun r8 g9 => ?_)
        refine y_eq0 (q := 51) (q' := 34) rfl rfl rfl rfl (fun c10 => ?_) (fun c11 => ?_)
        · skip
          exact y_retV rfl rfl rfl
        · skip
          refine y_aload_n (q := 35) rfl rfl rfl ?_
          refine y_iconst (x := 2) (q := 36) rfl (by decide) rfl ?_
          refine y_iload_n (q := 37) rfl rfl rfl ?_
          refine y_iconst (x := 1) (q := 38) rfl (by decide) rfl ?_
          refine y_iadd (q := 39) rfl rfl ?_
          refine y_callV (I := .invokevirtual 54) (idx := 54) (KD := 1) (J := 23) (mj := mj13) (as := [.ref 42, .int 2, .int (v2 + 1)]) (r := []) (q := 42) rfl (fun _ _ _ _ _ _ => rfl) rfl (by decide) rfl rfl rfl rfl rfl (Nat.le_of_ble_eq_true rfl) (d_recv atC42 (by decide) (by decide)) rfl (hrec (by omega) 2 (v2 + 1) g9) (fun g12 => ?_)
          refine y_aload_n (q := 43) rfl rfl rfl ?_
          refine y_getT (q := 46) rfl rfl (by decide) atC42 rfl rfl ?_
          refine y_bipush (x := (-14)) (q := 48) rfl (by decide) rfl ?_
          refine y_callV (I := .invokevirtual 67) (idx := 67) (KD := 1) (J := 70) (mj := mj60) (as := [.ref (dtx (g12 42 1)), .int (-14)]) (r := []) (q := 51) rfl (fun _ _ _ _ _ _ => rfl) rfl (by decide) rfl rfl rfl rfl rfl (Nat.le_of_ble_eq_true rfl) (d_recv (shT (zT_dtx _)) (by decide) (by decide)) rfl (m_X5_write (by omega) (dtx (g12 42 1)) (zT_dtx _) (-14) g12) (fun g13 => ?_)
          exact y_retV rfl rfl rfl
      · skip
        refine y_aload_n (q := 53) rfl rfl rfl ?_
        refine y_iload_n (q := 54) rfl rfl rfl ?_
        refine y_iconst (x := 1) (q := 55) rfl (by decide) rfl ?_
        refine y_iadd (q := 56) rfl rfl ?_
        refine y_iload_n (q := 57) rfl rfl rfl ?_
        refine y_callV (I := .invokevirtual 54) (idx := 54) (KD := 1) (J := 23) (mj := mj13) (as := [.ref 42, .int (v1 + 1), .int v2]) (r := []) (q := 60) rfl (fun _ _ _ _ _ _ => rfl) rfl (by decide) rfl rfl rfl rfl rfl (Nat.le_of_ble_eq_true rfl) (d_recv atC42 (by decide) (by decide)) rfl (hrec (by omega) (v1 + 1) v2 h) (fun g14 => ?_)
        refine y_iload_n (q := 61) rfl rfl rfl ?_
        refine y_iconst (x := 2) (q := 62) rfl (by decide) rfl ?_
        refine y_ne (q := 69) (q' := 65) rfl rfl (by decide) rfl rfl (fun c15 => ?_) (fun c16 => ?_)
        · skip
          refine y_iconst (x := 1) (q := 66) rfl (by decide) rfl ?_
          refine y_goto (q := 72) rfl rfl ?_
          refine y_istore_n (lo' := [some (.ref 42), some (.int v1), some (.int v2), some (.int 1), none, none]) (q := 73) rfl (Nat.le_of_ble_eq_true rfl) rfl rfl ?_
          refine y_iconst (x := 0) (q := 74) rfl (by decide) rfl ?_
          refine y_istore (lo' := [some (.ref 42), some (.int v1), some (.int v2), some (.int 1), some (.int 0), none]) (q := 76) rfl (Nat.le_of_ble_eq_true rfl) rfl rfl ?_
          refine lz_X1_read_76 hd rec hrec v1 v2 1  _ (fun z26 z27 g28 => ?_) fuel0 0 g14 (none)
          exact y_retV rfl rfl rfl
        · skip
          refine y_sipush (x := 160) (q := 72) rfl (by decide) rfl ?_
          refine y_istore_n (lo' := [some (.ref 42), some (.int v1), some (.int v2), some (.int 160), none, none]) (q := 73) rfl (Nat.le_of_ble_eq_true rfl) rfl rfl ?_
          refine y_iconst (x := 0) (q := 74) rfl (by decide) rfl ?_
          refine y_istore (lo' := [some (.ref 42), some (.int v1), some (.int v2), some (.int 160), some (.int 0), none]) (q := 76) rfl (Nat.le_of_ble_eq_true rfl) rfl rfl ?_
          refine lz_X1_read_76 hd rec hrec v1 v2 160  _ (fun z29 z30 g31 => ?_) fuel0 0 g14 (none)
          exact y_retV rfl rfl rfl
    · skip
      refine y_aload_n (q := 53) rfl rfl rfl ?_
      refine y_iload_n (q := 54) rfl rfl rfl ?_
      refine y_iconst (x := 1) (q := 55) rfl (by decide) rfl ?_
      refine y_iadd (q := 56) rfl rfl ?_
      refine y_iload_n (q := 57) rfl rfl rfl ?_
      refine y_callV (I := .invokevirtual 54) (idx := 54) (KD := 1) (J := 23) (mj := mj13) (as := [.ref 42, .int (v1 + 1), .int v2]) (r := []) (q := 60) rfl (fun _ _ _ _ _ _ => rfl) rfl (by decide) rfl rfl rfl rfl rfl (Nat.le_of_ble_eq_true rfl) (d_recv atC42 (by decide) (by decide)) rfl (hrec (by omega) (v1 + 1) v2 h) (fun g32 => ?_)
      refine y_iload_n (q := 61) rfl rfl rfl ?_
      refine y_iconst (x := 2) (q := 62) rfl (by decide) rfl ?_
      refine y_ne (q := 69) (q' := 65) rfl rfl (by decide) rfl rfl (fun c33 => ?_) (fun c34 => ?_)
      · skip
        refine y_iconst (x := 1) (q := 66) rfl (by decide) rfl ?_
        refine y_goto (q := 72) rfl rfl ?_
        refine y_istore_n (lo' := [some (.ref 42), some (.int v1), some (.int v2), some (.int 1), none, none]) (q := 73) rfl (Nat.le_of_ble_eq_true rfl) rfl rfl ?_
        refine y_iconst (x := 0) (q := 74) rfl (by decide) rfl ?_
        refine y_istore (lo' := [some (.ref 42), some (.int v1), some (.int v2), some (.int 1), some (.int 0), none]) (q := 76) rfl (Nat.le_of_ble_eq_true rfl) rfl rfl ?_
        refine lz_X1_read_76 hd rec hrec v1 v2 1  _ (fun z35 z36 g37 => ?_) fuel0 0 g32 (none)
        exact y_retV rfl rfl rfl
      · skip
        refine y_sipush (x := 160) (q := 72) rfl (by decide) rfl ?_
        refine y_istore_n (lo' := [some (.ref 42), some (.int v1), some (.int v2), some (.int 160), none, none]) (q := 73) rfl (Nat.le_of_ble_eq_true rfl) rfl rfl ?_
        refine y_iconst (x := 0) (q := 74) rfl (by decide) rfl ?_
        refine y_istore (lo' := [some (.ref 42), some (.int v1), some (.int v2), some (.int 160), some (.int 0), none]) (q := 76) rfl (Nat.le_of_ble_eq_true rfl) rfl rfl ?_
        refine lz_X1_read_76 hd rec hrec v1 v2 160  _ (fun z38 z39 g40 => ?_) fuel0 0 g32 (none)
        exact y_retV rfl rfl rfl
def f_X1_read : Nat → Int32 → Int32 → dH → Option dH
  | 0 => fun _ _ _ => none
  | n + 1 => f_X1_readB (f_X1_read n)
theorem m_X1_read : ∀ {n : Nat} {d : Nat} (hd : 21 * n ≤ d) (v1 v2 : Int32) (h : dH), dX shC d 13 [.ref 42, .int v1, .int v2] dV (f_X1_read n v1 v2 h) h
  | 0, _, _, _, _, _ => fun _ h => by cases h
  | n + 1, d, hd, v1, v2, h => m_X1_readB (D := 21 * n) _ (fun he a b g => m_X1_read he a b g) (by omega) v1 v2 h
def recF : Nat := 45
def f_X1_readPart (v1 : Int32) (v2 : Int32) (h : dH) : Option (dH) := oV (f_X1_expect v1 h) (fun g1 => oV (f_X1_read recF 0 0 g1) (fun g2 => oV (f_X1_expect 59 g2) (fun g3 => oV (f_X5_endPart (dtx (g3 42 1)) v2 g3) (fun g4 => some g4))))
theorem m_X1_readPart {d : Nat} (hd : 1000 ≤ d) (v1 : Int32) (v2 : Int32) (h : dH) : dX shC d 12 [.ref 42, .int v1, .int v2] dV (f_X1_readPart v1 v2 h) h := by
  obtain ⟨e, rfl⟩ : ∃ e, d = e + 1 := ⟨d - 1, by omega⟩
  have hd : 999 ≤ e := by omega
  refine dX_of (mj := mj12) (lo := [some (.ref 42), some (.int v1), some (.int v2)]) rfl (Nat.le_of_ble_eq_true rfl) rfl ?_
  unfold f_X1_readPart
  refine y_aload_n (q := 1) rfl rfl rfl ?_
  refine y_iload_n (q := 2) rfl rfl rfl ?_
  refine y_callV (I := .invokevirtual 50) (idx := 50) (KD := 1) (J := 26) (mj := mj16) (as := [.ref 42, .int v1]) (r := []) (q := 5) rfl (fun _ _ _ _ _ _ => rfl) rfl (by decide) rfl rfl rfl rfl rfl (Nat.le_of_ble_eq_true rfl) (d_recv atC42 (by decide) (by decide)) rfl (m_X1_expect (Nat.le_trans (by decide) hd) v1 h) (fun g1 => ?_)
  refine y_aload_n (q := 6) rfl rfl rfl ?_
  refine y_iconst (x := 0) (q := 7) rfl (by decide) rfl ?_
  refine y_iconst (x := 0) (q := 8) rfl (by decide) rfl ?_
  refine y_callV (I := .invokevirtual 54) (idx := 54) (KD := 1) (J := 23) (mj := mj13) (as := [.ref 42, .int 0, .int 0]) (r := []) (q := 11) rfl (fun _ _ _ _ _ _ => rfl) rfl (by decide) rfl rfl rfl rfl rfl (Nat.le_of_ble_eq_true rfl) (d_recv atC42 (by decide) (by decide)) rfl (m_X1_read (n := recF) (Nat.le_trans (by decide) hd) 0 0 g1) (fun g2 => ?_)
  refine y_aload_n (q := 12) rfl rfl rfl ?_
  refine y_bipush (x := 59) (q := 14) rfl (by decide) rfl ?_
  refine y_callV (I := .invokevirtual 50) (idx := 50) (KD := 1) (J := 26) (mj := mj16) (as := [.ref 42, .int 59]) (r := []) (q := 17) rfl (fun _ _ _ _ _ _ => rfl) rfl (by decide) rfl rfl rfl rfl rfl (Nat.le_of_ble_eq_true rfl) (d_recv atC42 (by decide) (by decide)) rfl (m_X1_expect (Nat.le_trans (by decide) hd) 59 g2) (fun g3 => ?_)
  refine y_aload_n (q := 18) rfl rfl rfl ?_
  refine y_getT (q := 21) rfl rfl (by decide) atC42 rfl rfl ?_
  refine y_iload_n (q := 22) rfl rfl rfl ?_
  refine y_callV (I := .invokevirtual 57) (idx := 57) (KD := 1) (J := 71) (mj := mj61) (as := [.ref (dtx (g3 42 1)), .int v2]) (r := []) (q := 25) rfl (fun _ _ _ _ _ _ => rfl) rfl (by decide) rfl rfl rfl rfl rfl (Nat.le_of_ble_eq_true rfl) (d_recv (shT (zT_dtx _)) (by decide) (by decide)) rfl (m_X5_endPart (Nat.le_trans (by decide) hd) (dtx (g3 42 1)) (zT_dtx _) v2 g3) (fun g4 => ?_)
  exact y_retV rfl rfl rfl
def f_X1_readInto (a1 : Nat) (h : dH) : Option (Int32 × dH) := oH (dU h 42 1 (dti a1)) (fun g1 => oV (f_X5_clear (dtx (g1 42 1)) g1) (fun g2 => oV (f_X4_cut  g2) (fun g3 => oH (dU g3 42 2 0) (fun g4 => oH (dU g4 42 3 (g4 2 0)) (fun g5 => oH (dU g5 42 4 (-1)) (fun g6 => oV (f_X1_readPart 304 0 g6) (fun g7 => oV (f_X1_readPart 305 1 g7) (fun g8 => oV (f_X1_readPart 306 2 g8) (fun g9 => if (g9 42 3).toInt = 300 then (some ((g9 42 4), g9)) else (oV (f_X1_fail  g9) (fun g12 => some ((g12 42 4), g12))))))))))))
theorem m_X1_readInto {d : Nat} (hd : 1001 ≤ d) (a1 : Nat) (ha1 : zT a1) (h : dH) : dX shC d 11 [.ref 42, .ref a1] dI (f_X1_readInto a1 h) h := by
  obtain ⟨e, rfl⟩ : ∃ e, d = e + 1 := ⟨d - 1, by omega⟩
  have hd : 1000 ≤ e := by omega
  refine dX_of (mj := mj11) (lo := [some (.ref 42), some (.ref a1)]) rfl (Nat.le_of_ble_eq_true rfl) rfl ?_
  unfold f_X1_readInto
  refine y_aload_n (q := 1) rfl rfl rfl ?_
  refine y_aload_n (q := 2) rfl rfl rfl ?_
  refine y_putT (q := 5) rfl rfl (by decide) atC42 rfl (dtx_dti ha1) rfl rfl rfl (fun g1 => ?_)
  refine y_aload_n (q := 6) rfl rfl rfl ?_
  refine y_getT (q := 9) rfl rfl (by decide) atC42 rfl rfl ?_
  refine y_callV (I := .invokevirtual 19) (idx := 19) (KD := 1) (J := 69) (mj := mj59) (as := [.ref (dtx (g1 42 1))]) (r := []) (q := 12) rfl (fun _ _ _ _ _ _ => rfl) rfl (by decide) rfl rfl rfl rfl rfl (Nat.le_of_ble_eq_true rfl) (d_recv (shT (zT_dtx _)) (by decide) (by decide)) rfl (m_X5_clear (Nat.le_trans (by decide) hd) (dtx (g1 42 1)) (zT_dtx _) g1) (fun g2 => ?_)
  refine y_aload_n (q := 13) rfl rfl rfl ?_
  refine y_getR (b := 1) (q := 16) rfl rfl (by decide) atC42 rfl rfl ?_
  refine y_callV (I := .invokevirtual 24) (idx := 24) (KD := 1) (J := 59) (mj := mj49) (as := [.ref 1]) (r := []) (q := 19) rfl (fun _ _ _ _ _ _ => rfl) rfl (by decide) rfl rfl rfl rfl rfl (Nat.le_of_ble_eq_true rfl) (d_recv atC1 (by decide) (by decide)) rfl (m_X4_cut (Nat.le_trans (by decide) hd)  g2) (fun g3 => ?_)
  refine y_aload_n (q := 20) rfl rfl rfl ?_
  refine y_iconst (x := 0) (q := 21) rfl (by decide) rfl ?_
  refine y_putI (q := 24) rfl rfl (by decide) atC42 rfl rfl rfl rfl (fun g4 => ?_)
  refine y_aload_n (q := 25) rfl rfl rfl ?_
  refine y_aload_n (q := 26) rfl rfl rfl ?_
  refine y_getR (b := 1) (q := 29) rfl rfl (by decide) atC42 rfl rfl ?_
  refine y_getR (b := 2) (q := 32) rfl rfl (by decide) atC1 rfl rfl ?_
  refine y_iconst (x := 0) (q := 33) rfl (by decide) rfl ?_
  refine y_iald (n := 161) (N := 161) (X := 0) (K := 0) (q := 34) hbC rfl atC2 rfl (by decide) ⟨by decide, by decide⟩ rfl rfl ?_
  refine y_putI (q := 37) rfl rfl (by decide) atC42 rfl rfl rfl rfl (fun g5 => ?_)
  refine y_aload_n (q := 38) rfl rfl rfl ?_
  refine y_iconst (x := (-1)) (q := 39) rfl (by decide) rfl ?_
  refine y_putI (q := 42) rfl rfl (by decide) atC42 rfl rfl rfl rfl (fun g6 => ?_)
  refine y_aload_n (q := 43) rfl rfl rfl ?_
  refine y_sipush (x := 304) (q := 46) rfl (by decide) rfl ?_
  refine y_iconst (x := 0) (q := 47) rfl (by decide) rfl ?_
  refine y_callV (I := .invokevirtual 43) (idx := 43) (KD := 1) (J := 22) (mj := mj12) (as := [.ref 42, .int 304, .int 0]) (r := []) (q := 50) rfl (fun _ _ _ _ _ _ => rfl) rfl (by decide) rfl rfl rfl rfl rfl (Nat.le_of_ble_eq_true rfl) (d_recv atC42 (by decide) (by decide)) rfl (m_X1_readPart (Nat.le_trans (by decide) hd) 304 0 g6) (fun g7 => ?_)
  refine y_aload_n (q := 51) rfl rfl rfl ?_
  refine y_sipush (x := 305) (q := 54) rfl (by decide) rfl ?_
  refine y_iconst (x := 1) (q := 55) rfl (by decide) rfl ?_
  refine y_callV (I := .invokevirtual 43) (idx := 43) (KD := 1) (J := 22) (mj := mj12) (as := [.ref 42, .int 305, .int 1]) (r := []) (q := 58) rfl (fun _ _ _ _ _ _ => rfl) rfl (by decide) rfl rfl rfl rfl rfl (Nat.le_of_ble_eq_true rfl) (d_recv atC42 (by decide) (by decide)) rfl (m_X1_readPart (Nat.le_trans (by decide) hd) 305 1 g7) (fun g8 => ?_)
  refine y_aload_n (q := 59) rfl rfl rfl ?_
  refine y_sipush (x := 306) (q := 62) rfl (by decide) rfl ?_
  refine y_iconst (x := 2) (q := 63) rfl (by decide) rfl ?_
  refine y_callV (I := .invokevirtual 43) (idx := 43) (KD := 1) (J := 22) (mj := mj12) (as := [.ref 42, .int 306, .int 2]) (r := []) (q := 66) rfl (fun _ _ _ _ _ _ => rfl) rfl (by decide) rfl rfl rfl rfl rfl (Nat.le_of_ble_eq_true rfl) (d_recv atC42 (by decide) (by decide)) rfl (m_X1_readPart (Nat.le_trans (by decide) hd) 306 2 g8) (fun g9 => ?_)
  refine y_aload_n (q := 67) rfl rfl rfl ?_
  refine y_getI (q := 70) rfl rfl (by decide) atC42 rfl rfl ?_
  refine y_sipush (x := 300) (q := 73) rfl (by decide) rfl ?_
  refine y_eq (q := 80) (q' := 76) rfl rfl (by decide) rfl rfl (fun c10 => ?_) (fun c11 => ?_)
  · skip
    refine y_aload_n (q := 81) rfl rfl rfl ?_
    refine y_getI (q := 84) rfl rfl (by decide) atC42 rfl rfl ?_
    exact y_retI rfl (by decide) rfl rfl
  · skip
    refine y_aload_n (q := 77) rfl rfl rfl ?_
    refine y_callV (I := .invokevirtual 47) (idx := 47) (KD := 1) (J := 28) (mj := mj18) (as := [.ref 42]) (r := []) (q := 80) rfl (fun _ _ _ _ _ _ => rfl) rfl (by decide) rfl rfl rfl rfl rfl (Nat.le_of_ble_eq_true rfl) (d_recv atC42 (by decide) (by decide)) rfl (m_X1_fail (Nat.le_trans (by decide) hd)  g9) (fun g12 => ?_)
    refine y_aload_n (q := 81) rfl rfl rfl ?_
    refine y_getI (q := 84) rfl rfl (by decide) atC42 rfl rfl ?_
    exact y_retI rfl (by decide) rfl rfl
end
end
