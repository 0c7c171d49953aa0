/-! X3_add, X3_tie, X3_acquaintances, X3_friends, X3_allStrength, X3_seatsAt, X3_seated, X3_look, X5_joined, X5_turned, X5_value, X3_meets, X3_forgets, X3_sounds, X3_holdFeast, X3_endYear, X3_pass, X3_dinAt, X3_quietTable, X4_put, X4_empty (by program) -/
noncomputable section
def f_X3_add (a0 : Nat) (v1 : Int32) (v2 : Int32) (h : dH) : Option (dH) := if (h a0 2).toInt < 8 then (if 0 ≤ (h a0 2).toInt ∧ (h a0 2).toInt < 8 then (oH (dU h (a0 + 1) ((h a0 2).toInt.toNat) v1) (fun g3 => if 0 ≤ (g3 a0 2).toInt ∧ (g3 a0 2).toInt < 8 then (oH (dU g3 (a0 + 2) ((g3 a0 2).toInt.toNat) v2) (fun g5 => if 0 ≤ (g5 a0 2).toInt ∧ (g5 a0 2).toInt < 8 then (oH (dU g5 (a0 + 3) ((g5 a0 2).toInt.toNat) (-1)) (fun g7 => oH (dU g7 a0 2 ((g7 a0 2) + 1)) (fun g9 => some g9))) else none)) else none)) else none) else (some h)
theorem m_X3_add {d : Nat} (hd : 1 ≤ d) (a0 : Nat) (ha0 : zS a0) (v1 : Int32) (v2 : Int32) (h : dH) : dX shC d 29 [.ref a0, .int v1, .int v2] dV (f_X3_add a0 v1 v2 h) h := by
  obtain ⟨e, rfl⟩ : ∃ e, d = e + 1 := ⟨d - 1, by omega⟩
  have hd : 0 ≤ e := by omega
  refine dX_of (mj := mj29) (lo := [some (.ref a0), some (.int v1), some (.int v2)]) rfl (Nat.le_of_ble_eq_true rfl) rfl ?_
  unfold f_X3_add
  refine y_aload_n (q := 1) rfl rfl rfl ?_
  refine y_getI (q := 4) rfl rfl (by decide) (shS ha0) rfl rfl ?_
  refine y_bipush (x := 8) (q := 6) rfl (by decide) rfl ?_
  refine y_lt (q := 10) (q' := 9) rfl rfl (by decide) rfl rfl (fun c1 => ?_) (fun c2 => ?_)
  · skip
    refine y_aload_n (q := 11) rfl rfl rfl ?_
    refine y_getR (b := (a0 + 1)) (q := 14) rfl rfl (by decide) (shS ha0) rfl rfl ?_
    refine y_aload_n (q := 15) rfl rfl rfl ?_
    refine y_getI (q := 18) rfl rfl (by decide) (shS ha0) rfl rfl ?_
    refine y_iload_n (q := 19) rfl rfl rfl ?_
    refine y_guard (fun c4 => ?_)
    refine y_iast (n := 8) (N := 8) (X := (h a0 2).toInt) (K := (h a0 2).toInt.toNat) (q := 20) rfl (shS1 ha0) rfl rfl c4 rfl rfl (fun g3 => ?_)
    refine y_aload_n (q := 21) rfl rfl rfl ?_
    refine y_getR (b := (a0 + 2)) (q := 24) rfl rfl (by decide) (shS ha0) rfl rfl ?_
    refine y_aload_n (q := 25) rfl rfl rfl ?_
    refine y_getI (q := 28) rfl rfl (by decide) (shS ha0) rfl rfl ?_
    refine y_iload_n (q := 29) rfl rfl rfl ?_
    refine y_guard (fun c6 => ?_)
    refine y_iast (n := 8) (N := 8) (X := (g3 a0 2).toInt) (K := (g3 a0 2).toInt.toNat) (q := 30) rfl (shS2 ha0) rfl rfl c6 rfl rfl (fun g5 => ?_)
    refine y_aload_n (q := 31) rfl rfl rfl ?_
    refine y_getR (b := (a0 + 3)) (q := 34) rfl rfl (by decide) (shS ha0) rfl rfl ?_
    refine y_aload_n (q := 35) rfl rfl rfl ?_
    refine y_getI (q := 38) rfl rfl (by decide) (shS ha0) rfl rfl ?_
    refine y_iconst (x := (-1)) (q := 39) rfl (by decide) rfl ?_
    refine y_guard (fun c8 => ?_)
    refine y_iast (n := 8) (N := 8) (X := (g5 a0 2).toInt) (K := (g5 a0 2).toInt.toNat) (q := 40) rfl (shS3 ha0) rfl rfl c8 rfl rfl (fun g7 => ?_)
    refine y_aload_n (q := 41) rfl rfl rfl ?_
    refine y_dup (q := 42) rfl rfl ?_
    refine y_getI (q := 45) rfl rfl (by decide) (shS ha0) rfl rfl ?_
    refine y_iconst (x := 1) (q := 46) rfl (by decide) rfl ?_
    refine y_iadd (q := 47) rfl rfl ?_
    refine y_putI (q := 50) rfl rfl (by decide) (shS ha0) rfl rfl rfl rfl (fun g9 => ?_)
    exact y_retV rfl rfl rfl
  · skip
    exact y_retV rfl rfl rfl
def f_X3_tie (a0 : Nat) (v1 : Int32) (v2 : Int32) (v3 : Int32) (h : dH) : Option (dH) := if 0 ≤ v1.toInt ∧ v1.toInt < 8 then (if 0 ≤ v2.toInt ∧ v2.toInt < 8 then (oH (dU h (a0 + 5 + v1.toInt.toNat) (v2.toInt.toNat) v3) (fun g2 => if 0 ≤ v2.toInt ∧ v2.toInt < 8 then (if 0 ≤ v1.toInt ∧ v1.toInt < 8 then (oH (dU g2 (a0 + 5 + v2.toInt.toNat) (v1.toInt.toNat) v3) (fun g5 => some g5)) else none) else none)) else none) else none
theorem m_X3_tie {d : Nat} (hd : 1 ≤ d) (a0 : Nat) (ha0 : zS a0) (v1 : Int32) (v2 : Int32) (v3 : Int32) (h : dH) : dX shC d 30 [.ref a0, .int v1, .int v2, .int v3] dV (f_X3_tie a0 v1 v2 v3 h) h := by
  obtain ⟨e, rfl⟩ : ∃ e, d = e + 1 := ⟨d - 1, by omega⟩
  have hd : 0 ≤ e := by omega
  refine dX_of (mj := mj30) (lo := [some (.ref a0), some (.int v1), some (.int v2), some (.int v3)]) rfl (Nat.le_of_ble_eq_true rfl) rfl ?_
  unfold f_X3_tie
  refine y_aload_n (q := 1) rfl rfl rfl ?_
  refine y_getR (b := (a0 + 4)) (q := 4) rfl rfl (by decide) (shS ha0) rfl rfl ?_
  refine y_iload_n (q := 5) rfl rfl rfl ?_
  refine y_guard (fun c1 => ?_)
  refine y_aald (b := (a0 + 5 + v1.toInt.toNat)) (K := v1.toInt.toNat) (X := v1.toInt) (q := 6) hbC rfl (shS4 ha0) (by decide) rfl c1.1 rfl (shS4k _ (by omega : v1.toInt.toNat < 8)) rfl ?_
  refine y_iload_n (q := 7) rfl rfl rfl ?_
  refine y_iload_n (q := 8) rfl rfl rfl ?_
  refine y_guard (fun c3 => ?_)
  refine y_iast (n := 8) (N := 8) (X := v2.toInt) (K := v2.toInt.toNat) (q := 9) rfl (shSr ha0 (by omega : v1.toInt.toNat < 8)) rfl rfl c3 rfl rfl (fun g2 => ?_)
  refine y_aload_n (q := 10) rfl rfl rfl ?_
  refine y_getR (b := (a0 + 4)) (q := 13) rfl rfl (by decide) (shS ha0) rfl rfl ?_
  refine y_iload_n (q := 14) rfl rfl rfl ?_
  refine y_guard (fun c4 => ?_)
  refine y_aald (b := (a0 + 5 + v2.toInt.toNat)) (K := v2.toInt.toNat) (X := v2.toInt) (q := 15) hbC rfl (shS4 ha0) (by decide) rfl c4.1 rfl (shS4k _ (by omega : v2.toInt.toNat < 8)) rfl ?_
  refine y_iload_n (q := 16) rfl rfl rfl ?_
  refine y_iload_n (q := 17) rfl rfl rfl ?_
  refine y_guard (fun c6 => ?_)
  refine y_iast (n := 8) (N := 8) (X := v1.toInt) (K := v1.toInt.toNat) (q := 18) rfl (shSr ha0 (by omega : v2.toInt.toNat < 8)) rfl rfl c6 rfl rfl (fun g5 => ?_)
  exact y_retV rfl rfl rfl
def l_X3_acquaintances_4 (a0 : Nat) (v1 : Int32) (h : dH) (k : Int32 → Option (Int32)) : Nat → Int32 → Int32 → Option (Int32)
  | 0, _, _ => none
  | n + 1, v2, v3 => if v3.toInt < (h a0 2).toInt then (oP (f_X3_knows a0 v1 v3 h) (fun r3 => if r3.toInt = 0 then (l_X3_acquaintances_4 a0 v1 h k n v2 (v3 + 1) ) else (l_X3_acquaintances_4 a0 v1 h k n (v2 + 1) (v3 + 1) ))) else (k v2 )
theorem lz_X3_acquaintances_4 {d : Nat} (hd : 1 ≤ d) (a0 : Nat) (ha0 : zS a0) (v1 : Int32) (h : dH) (k : Int32 → Option (Int32)) (hk : ∀ (v2 : Int32) (w3 : Int32), dY shC d mj32 (dP h) (k v2) 30 [some (.ref a0), some (.int v1), some (.int v2), some (.int w3)] [] h) : ∀ (n : Nat) (v2 : Int32) (v3 : Int32), dY shC d mj32 (dP h) (l_X3_acquaintances_4 a0 v1 h k n v2 v3) 4 [some (.ref a0), some (.int v1), some (.int v2), some (.int v3)] [] h
  | 0, _, _ => dY_none
  | n + 1, v2, v3 => by
    rw [l_X3_acquaintances_4]
    refine y_iload_n (q := 5) rfl rfl rfl ?_
    refine y_aload_n (q := 6) rfl rfl rfl ?_
    refine y_getI (q := 9) rfl rfl (by decide) (shS ha0) rfl rfl ?_
    refine y_ge (q := 30) (q' := 12) rfl rfl rfl rfl rfl (fun c1 => ?_) (fun c2 => ?_)
    · skip
      refine y_aload_n (q := 13) rfl rfl rfl ?_
      refine y_iload_n (q := 14) rfl rfl rfl ?_
      refine y_iload_n (q := 15) rfl rfl rfl ?_
      refine y_callP (I := .invokevirtual 51) (idx := 51) (KD := 1) (J := 41) (mj := mj31) (as := [.ref a0, .int v1, .int v3]) (r := []) (q := 18) rfl (fun _ _ _ _ _ _ => rfl) rfl (by decide) rfl rfl rfl rfl rfl (Nat.le_of_ble_eq_true rfl) (d_recv (shS ha0) (by decide) (by decide)) rfl (m_X3_knows (Nat.le_trans (by decide) hd) a0 ha0 v1 v3 h) (fun r3 => ?_)
      refine y_eq0 (q := 24) (q' := 21) rfl rfl rfl rfl (fun c4 => ?_) (fun c5 => ?_)
      · skip
        refine y_iinc (z := (v3 + 1)) (lo' := [some (.ref a0), some (.int v1), some (.int v2), some (.int (v3 + 1))]) (q := 27) rfl rfl (Nat.le_of_ble_eq_true rfl) (by rw [oi_1]) rfl rfl ?_
        refine y_goto (q := 4) rfl rfl ?_
        exact lz_X3_acquaintances_4 hd a0 ha0 v1 h k hk n v2 (v3 + 1)  
      · skip
        refine y_iinc (z := (v2 + 1)) (lo' := [some (.ref a0), some (.int v1), some (.int (v2 + 1)), some (.int v3)]) (q := 24) rfl rfl (Nat.le_of_ble_eq_true rfl) (by rw [oi_1]) rfl rfl ?_
        refine y_iinc (z := (v3 + 1)) (lo' := [some (.ref a0), some (.int v1), some (.int (v2 + 1)), some (.int (v3 + 1))]) (q := 27) rfl rfl (Nat.le_of_ble_eq_true rfl) (by rw [oi_1]) rfl rfl ?_
        refine y_goto (q := 4) rfl rfl ?_
        exact lz_X3_acquaintances_4 hd a0 ha0 v1 h k hk n (v2 + 1) (v3 + 1)  
    · skip
      exact hk v2 v3 
def f_X3_acquaintances (a0 : Nat) (v1 : Int32) (h : dH) : Option (Int32) := l_X3_acquaintances_4 a0 v1 h (fun v2_6 => (some v2_6)) fuel0 0 0 
theorem m_X3_acquaintances {d : Nat} (hd : 2 ≤ d) (a0 : Nat) (ha0 : zS a0) (v1 : Int32) (h : dH) : dX shC d 32 [.ref a0, .int v1] (dP h) (f_X3_acquaintances a0 v1 h) h := by
  obtain ⟨e, rfl⟩ : ∃ e, d = e + 1 := ⟨d - 1, by omega⟩
  have hd : 1 ≤ e := by omega
  refine dX_of (mj := mj32) (lo := [some (.ref a0), some (.int v1), none, none]) rfl (Nat.le_of_ble_eq_true rfl) rfl ?_
  unfold f_X3_acquaintances
  refine y_iconst (x := 0) (q := 1) rfl (by decide) rfl ?_
  refine y_istore_n (lo' := [some (.ref a0), some (.int v1), some (.int 0), none]) (q := 2) rfl (Nat.le_of_ble_eq_true rfl) rfl rfl ?_
  refine y_iconst (x := 0) (q := 3) rfl (by decide) rfl ?_
  refine y_istore_n (lo' := [some (.ref a0), some (.int v1), some (.int 0), some (.int 0)]) (q := 4) rfl (Nat.le_of_ble_eq_true rfl) rfl rfl ?_
  refine lz_X3_acquaintances_4 hd a0 ha0 v1 h _ (fun v2_6 z7 => ?_) fuel0 0 0  
  refine y_iload_n (q := 31) rfl rfl rfl ?_
  exact y_retP rfl (by decide) rfl rfl
def l_X3_friends_16 (a0 : Nat) (v2 : Int32) (h : dH) (k : Int32 → Option (Int32)) : Nat → Int32 → Int32 → Option (Int32)
  | 0, _, _ => none
  | n + 1, v1, v3 => if v3.toInt < (h a0 2).toInt then (oP (f_X3_knows a0 v2 v3 h) (fun r5 => if r5.toInt = 0 then (l_X3_friends_16 a0 v2 h k n v1 (v3 + 1) ) else (l_X3_friends_16 a0 v2 h k n (v1 + 1) (v3 + 1) ))) else (k v1 )
theorem lz_X3_friends_16 {d : Nat} (hd : 1 ≤ d) (a0 : Nat) (ha0 : zS a0) (v2 : Int32) (h : dH) (k : Int32 → Option (Int32)) (hk : ∀ (v1 : Int32) (w3 : Int32), dY shC d mj33 (dP h) (k v1) 42 [some (.ref a0), some (.int v1), some (.int v2), some (.int w3)] [] h) : ∀ (n : Nat) (v1 : Int32) (v3 : Int32), dY shC d mj33 (dP h) (l_X3_friends_16 a0 v2 h k n v1 v3) 16 [some (.ref a0), some (.int v1), some (.int v2), some (.int v3)] [] h
  | 0, _, _ => dY_none
  | n + 1, v1, v3 => by
    rw [l_X3_friends_16]
    refine y_iload_n (q := 17) rfl rfl rfl ?_
    refine y_aload_n (q := 18) rfl rfl rfl ?_
    refine y_getI (q := 21) rfl rfl (by decide) (shS ha0) rfl rfl ?_
    refine y_ge (q := 42) (q' := 24) rfl rfl rfl rfl rfl (fun c3 => ?_) (fun c4 => ?_)
    · skip
      refine y_aload_n (q := 25) rfl rfl rfl ?_
      refine y_iload_n (q := 26) rfl rfl rfl ?_
      refine y_iload_n (q := 27) rfl rfl rfl ?_
      refine y_callP (I := .invokevirtual 51) (idx := 51) (KD := 1) (J := 41) (mj := mj31) (as := [.ref a0, .int v2, .int v3]) (r := []) (q := 30) rfl (fun _ _ _ _ _ _ => rfl) rfl (by decide) rfl rfl rfl rfl rfl (Nat.le_of_ble_eq_true rfl) (d_recv (shS ha0) (by decide) (by decide)) rfl (m_X3_knows (Nat.le_trans (by decide) hd) a0 ha0 v2 v3 h) (fun r5 => ?_)
      refine y_eq0 (q := 36) (q' := 33) rfl rfl rfl rfl (fun c6 => ?_) (fun c7 => ?_)
      · skip
        refine y_iinc (z := (v3 + 1)) (lo' := [some (.ref a0), some (.int v1), some (.int v2), some (.int (v3 + 1))]) (q := 39) rfl rfl (Nat.le_of_ble_eq_true rfl) (by rw [oi_1]) rfl rfl ?_
        refine y_goto (q := 16) rfl rfl ?_
        exact lz_X3_friends_16 hd a0 ha0 v2 h k hk n v1 (v3 + 1)  
      · skip
        refine y_iinc (z := (v1 + 1)) (lo' := [some (.ref a0), some (.int (v1 + 1)), some (.int v2), some (.int v3)]) (q := 36) rfl rfl (Nat.le_of_ble_eq_true rfl) (by rw [oi_1]) rfl rfl ?_
        refine y_iinc (z := (v3 + 1)) (lo' := [some (.ref a0), some (.int (v1 + 1)), some (.int v2), some (.int (v3 + 1))]) (q := 39) rfl rfl (Nat.le_of_ble_eq_true rfl) (by rw [oi_1]) rfl rfl ?_
        refine y_goto (q := 16) rfl rfl ?_
        exact lz_X3_friends_16 hd a0 ha0 v2 h k hk n (v1 + 1) (v3 + 1)  
    · skip
      exact hk v1 v3 
def l_X3_friends_4 (a0 : Nat) (h : dH) (k : Int32 → Option (Int32)) : Nat → Int32 → Int32 → Option (Int32)
  | 0, _, _ => none
  | n + 1, v1, v2 => if v2.toInt < (h a0 2).toInt then (l_X3_friends_16 a0 v2 h (fun v1_8 => l_X3_friends_4 a0 h k n v1_8 (v2 + 1) ) fuel0 v1 (v2 + 1) ) else (k v1 )
theorem lz_X3_friends_4 {d : Nat} (hd : 1 ≤ d) (a0 : Nat) (ha0 : zS a0) (h : dH) (k : Int32 → Option (Int32)) (hk : ∀ (v1 : Int32) (w2 : Int32) (z3 : Option Value), dY shC d mj33 (dP h) (k v1) 48 [some (.ref a0), some (.int v1), some (.int w2), z3] [] h) : ∀ (n : Nat) (v1 : Int32) (v2 : Int32) (z3 : Option Value), dY shC d mj33 (dP h) (l_X3_friends_4 a0 h k n v1 v2) 4 [some (.ref a0), some (.int v1), some (.int v2), z3] [] h
  | 0, _, _, _ => dY_none
  | n + 1, v1, v2, z3 => by
    rw [l_X3_friends_4]
    refine y_iload_n (q := 5) rfl rfl rfl ?_
    refine y_aload_n (q := 6) rfl rfl rfl ?_
    refine y_getI (q := 9) rfl rfl (by decide) (shS ha0) rfl rfl ?_
    refine y_ge (q := 48) (q' := 12) rfl rfl rfl rfl rfl (fun c1 => ?_) (fun c2 => ?_)
    · skip
      refine y_iload_n (q := 13) rfl rfl rfl ?_
      refine y_iconst (x := 1) (q := 14) rfl (by decide) rfl ?_
      refine y_iadd (q := 15) rfl rfl ?_
      refine y_istore_n (lo' := [some (.ref a0), some (.int v1), some (.int v2), some (.int (v2 + 1))]) (q := 16) rfl (Nat.le_of_ble_eq_true rfl) rfl rfl ?_
      refine lz_X3_friends_16 hd a0 ha0 v2 h _ (fun v1_8 z9 => ?_) fuel0 v1 (v2 + 1)  
      refine y_iinc (z := (v2 + 1)) (lo' := [some (.ref a0), some (.int v1_8), some (.int (v2 + 1)), some (.int z9)]) (q := 45) rfl rfl (Nat.le_of_ble_eq_true rfl) (by rw [oi_1]) rfl rfl ?_
      refine y_goto (q := 4) rfl rfl ?_
      exact lz_X3_friends_4 hd a0 ha0 h k hk n v1_8 (v2 + 1)  (some (.int z9))
    · skip
      exact hk v1 v2 (z3) 
def f_X3_friends (a0 : Nat) (h : dH) : Option (Int32) := l_X3_friends_4 a0 h (fun v1_10 => (some v1_10)) fuel0 0 0 
theorem m_X3_friends {d : Nat} (hd : 2 ≤ d) (a0 : Nat) (ha0 : zS a0) (h : dH) : dX shC d 33 [.ref a0] (dP h) (f_X3_friends a0 h) h := by
  obtain ⟨e, rfl⟩ : ∃ e, d = e + 1 := ⟨d - 1, by omega⟩
  have hd : 1 ≤ e := by omega
  refine dX_of (mj := mj33) (lo := [some (.ref a0), none, none, none]) rfl (Nat.le_of_ble_eq_true rfl) rfl ?_
  unfold f_X3_friends
  refine y_iconst (x := 0) (q := 1) rfl (by decide) rfl ?_
  refine y_istore_n (lo' := [some (.ref a0), some (.int 0), none, none]) (q := 2) rfl (Nat.le_of_ble_eq_true rfl) rfl rfl ?_
  refine y_iconst (x := 0) (q := 3) rfl (by decide) rfl ?_
  refine y_istore_n (lo' := [some (.ref a0), some (.int 0), some (.int 0), none]) (q := 4) rfl (Nat.le_of_ble_eq_true rfl) rfl rfl ?_
  refine lz_X3_friends_4 hd a0 ha0 h _ (fun v1_10 z11 z12 => ?_) fuel0 0 0  (none)
  refine y_iload_n (q := 49) rfl rfl rfl ?_
  exact y_retP rfl (by decide) rfl rfl
def l_X3_allStrength_16 (a0 : Nat) (v2 : Int32) (h : dH) (k : Int32 → Option (Int32)) : Nat → Int32 → Int32 → Option (Int32)
  | 0, _, _ => none
  | n + 1, v1, v3 => if v3.toInt < (h a0 2).toInt then (if 0 ≤ v2.toInt ∧ v2.toInt < 8 then (if 0 ≤ v3.toInt ∧ v3.toInt < 8 then (l_X3_allStrength_16 a0 v2 h k n (v1 + (h (a0 + 5 + v2.toInt.toNat) (v3.toInt.toNat))) (v3 + 1) ) else none) else none) else (k v1 )
theorem lz_X3_allStrength_16 {d : Nat} (hd : 0 ≤ d) (a0 : Nat) (ha0 : zS a0) (v2 : Int32) (h : dH) (k : Int32 → Option (Int32)) (hk : ∀ (v1 : Int32) (w3 : Int32), dY shC d mj34 (dP h) (k v1) 41 [some (.ref a0), some (.int v1), some (.int v2), some (.int w3)] [] h) : ∀ (n : Nat) (v1 : Int32) (v3 : Int32), dY shC d mj34 (dP h) (l_X3_allStrength_16 a0 v2 h k n v1 v3) 16 [some (.ref a0), some (.int v1), some (.int v2), some (.int v3)] [] h
  | 0, _, _ => dY_none
  | n + 1, v1, v3 => by
    rw [l_X3_allStrength_16]
    refine y_iload_n (q := 17) rfl rfl rfl ?_
    refine y_aload_n (q := 18) rfl rfl rfl ?_
    refine y_getI (q := 21) rfl rfl (by decide) (shS ha0) rfl rfl ?_
    refine y_ge (q := 41) (q' := 24) rfl rfl rfl rfl rfl (fun c3 => ?_) (fun c4 => ?_)
    · skip
      refine y_iload_n (q := 25) rfl rfl rfl ?_
      refine y_aload_n (q := 26) rfl rfl rfl ?_
      refine y_getR (b := (a0 + 4)) (q := 29) rfl rfl (by decide) (shS ha0) rfl rfl ?_
      refine y_iload_n (q := 30) rfl rfl rfl ?_
      refine y_guard (fun c5 => ?_)
      refine y_aald (b := (a0 + 5 + v2.toInt.toNat)) (K := v2.toInt.toNat) (X := v2.toInt) (q := 31) hbC rfl (shS4 ha0) (by decide) rfl c5.1 rfl (shS4k _ (by omega : v2.toInt.toNat < 8)) rfl ?_
      refine y_iload_n (q := 32) rfl rfl rfl ?_
      refine y_guard (fun c6 => ?_)
      refine y_iald (n := 8) (N := 8) (X := v3.toInt) (K := v3.toInt.toNat) (q := 33) hbC rfl (shSr ha0 (by omega : v2.toInt.toNat < 8)) rfl rfl c6 rfl rfl ?_
      refine y_iadd (q := 34) rfl rfl ?_
      refine y_istore_n (lo' := [some (.ref a0), some (.int (v1 + (h (a0 + 5 + v2.toInt.toNat) (v3.toInt.toNat)))), some (.int v2), some (.int v3)]) (q := 35) rfl (Nat.le_of_ble_eq_true rfl) rfl rfl ?_
      refine y_iinc (z := (v3 + 1)) (lo' := [some (.ref a0), some (.int (v1 + (h (a0 + 5 + v2.toInt.toNat) (v3.toInt.toNat)))), some (.int v2), some (.int (v3 + 1))]) (q := 38) rfl rfl (Nat.le_of_ble_eq_true rfl) (by rw [oi_1]) rfl rfl ?_
      refine y_goto (q := 16) rfl rfl ?_
      exact lz_X3_allStrength_16 hd a0 ha0 v2 h k hk n (v1 + (h (a0 + 5 + v2.toInt.toNat) (v3.toInt.toNat))) (v3 + 1)  
    · skip
      exact hk v1 v3 
def l_X3_allStrength_4 (a0 : Nat) (h : dH) (k : Int32 → Option (Int32)) : Nat → Int32 → Int32 → Option (Int32)
  | 0, _, _ => none
  | n + 1, v1, v2 => if v2.toInt < (h a0 2).toInt then (l_X3_allStrength_16 a0 v2 h (fun v1_7 => l_X3_allStrength_4 a0 h k n v1_7 (v2 + 1) ) fuel0 v1 (v2 + 1) ) else (k v1 )
theorem lz_X3_allStrength_4 {d : Nat} (hd : 0 ≤ d) (a0 : Nat) (ha0 : zS a0) (h : dH) (k : Int32 → Option (Int32)) (hk : ∀ (v1 : Int32) (w2 : Int32) (z3 : Option Value), dY shC d mj34 (dP h) (k v1) 47 [some (.ref a0), some (.int v1), some (.int w2), z3] [] h) : ∀ (n : Nat) (v1 : Int32) (v2 : Int32) (z3 : Option Value), dY shC d mj34 (dP h) (l_X3_allStrength_4 a0 h k n v1 v2) 4 [some (.ref a0), some (.int v1), some (.int v2), z3] [] h
  | 0, _, _, _ => dY_none
  | n + 1, v1, v2, z3 => by
    rw [l_X3_allStrength_4]
    refine y_iload_n (q := 5) rfl rfl rfl ?_
    refine y_aload_n (q := 6) rfl rfl rfl ?_
    refine y_getI (q := 9) rfl rfl (by decide) (shS ha0) rfl rfl ?_
    refine y_ge (q := 47) (q' := 12) rfl rfl rfl rfl rfl (fun c1 => ?_) (fun c2 => ?_)
    · skip
      refine y_iload_n (q := 13) rfl rfl rfl ?_
      refine y_iconst (x := 1) (q := 14) rfl (by decide) rfl ?_
      refine y_iadd (q := 15) rfl rfl ?_
      refine y_istore_n (lo' := [some (.ref a0), some (.int v1), some (.int v2), some (.int (v2 + 1))]) (q := 16) rfl (Nat.le_of_ble_eq_true rfl) rfl rfl ?_
      refine lz_X3_allStrength_16 hd a0 ha0 v2 h _ (fun v1_7 z8 => ?_) fuel0 v1 (v2 + 1)  
      refine y_iinc (z := (v2 + 1)) (lo' := [some (.ref a0), some (.int v1_7), some (.int (v2 + 1)), some (.int z8)]) (q := 44) rfl rfl (Nat.le_of_ble_eq_true rfl) (by rw [oi_1]) rfl rfl ?_
      refine y_goto (q := 4) rfl rfl ?_
      exact lz_X3_allStrength_4 hd a0 ha0 h k hk n v1_7 (v2 + 1)  (some (.int z8))
    · skip
      exact hk v1 v2 (z3) 
def f_X3_allStrength (a0 : Nat) (h : dH) : Option (Int32) := l_X3_allStrength_4 a0 h (fun v1_9 => (some v1_9)) fuel0 0 0 
theorem m_X3_allStrength {d : Nat} (hd : 1 ≤ d) (a0 : Nat) (ha0 : zS a0) (h : dH) : dX shC d 34 [.ref a0] (dP h) (f_X3_allStrength a0 h) h := by
  obtain ⟨e, rfl⟩ : ∃ e, d = e + 1 := ⟨d - 1, by omega⟩
  have hd : 0 ≤ e := by omega
  refine dX_of (mj := mj34) (lo := [some (.ref a0), none, none, none]) rfl (Nat.le_of_ble_eq_true rfl) rfl ?_
  unfold f_X3_allStrength
  refine y_iconst (x := 0) (q := 1) rfl (by decide) rfl ?_
  refine y_istore_n (lo' := [some (.ref a0), some (.int 0), none, none]) (q := 2) rfl (Nat.le_of_ble_eq_true rfl) rfl rfl ?_
  refine y_iconst (x := 0) (q := 3) rfl (by decide) rfl ?_
  refine y_istore_n (lo' := [some (.ref a0), some (.int 0), some (.int 0), none]) (q := 4) rfl (Nat.le_of_ble_eq_true rfl) rfl rfl ?_
  refine lz_X3_allStrength_4 hd a0 ha0 h _ (fun v1_9 z10 z11 => ?_) fuel0 0 0  (none)
  refine y_iload_n (q := 48) rfl rfl rfl ?_
  exact y_retP rfl (by decide) rfl rfl
def l_X3_seatsAt_11 (a0 : Nat) (v1 : Int32) (h : dH) (k : Int32 → Option (Int32)) : Nat → Int32 → Int32 → Option (Int32)
  | 0, _, _ => none
  | n + 1, v2, v3 => if v3.toInt < (h a0 2).toInt then (if 0 ≤ v3.toInt ∧ v3.toInt < 8 then (if (h (a0 + 3) (v3.toInt.toNat)).toInt = v1.toInt then (l_X3_seatsAt_11 a0 v1 h k n (v2 + 1) (v3 + 1) ) else (l_X3_seatsAt_11 a0 v1 h k n v2 (v3 + 1) )) else none) else (k v2 )
theorem lz_X3_seatsAt_11 {d : Nat} (hd : 0 ≤ d) (a0 : Nat) (ha0 : zS a0) (v1 : Int32) (h : dH) (k : Int32 → Option (Int32)) (hk : ∀ (v2 : Int32) (w3 : Int32), dY shC d mj35 (dP h) (k v2) 38 [some (.ref a0), some (.int v1), some (.int v2), some (.int w3)] [] h) : ∀ (n : Nat) (v2 : Int32) (v3 : Int32), dY shC d mj35 (dP h) (l_X3_seatsAt_11 a0 v1 h k n v2 v3) 11 [some (.ref a0), some (.int v1), some (.int v2), some (.int v3)] [] h
  | 0, _, _ => dY_none
  | n + 1, v2, v3 => by
    rw [l_X3_seatsAt_11]
    refine y_iload_n (q := 12) rfl rfl rfl ?_
    refine y_aload_n (q := 13) rfl rfl rfl ?_
    refine y_getI (q := 16) rfl rfl (by decide) (shS ha0) rfl rfl ?_
    refine y_ge (q := 38) (q' := 19) rfl rfl rfl rfl rfl (fun c3 => ?_) (fun c4 => ?_)
    · skip
      refine y_aload_n (q := 20) rfl rfl rfl ?_
      refine y_getR (b := (a0 + 3)) (q := 23) rfl rfl (by decide) (shS ha0) rfl rfl ?_
      refine y_iload_n (q := 24) rfl rfl rfl ?_
      refine y_guard (fun c5 => ?_)
      refine y_iald (n := 8) (N := 8) (X := v3.toInt) (K := v3.toInt.toNat) (q := 25) hbC rfl (shS3 ha0) rfl rfl c5 rfl rfl ?_
      refine y_iload_n (q := 26) rfl rfl rfl ?_
      refine y_ne (q := 32) (q' := 29) rfl rfl rfl rfl rfl (fun c6 => ?_) (fun c7 => ?_)
      · skip
        refine y_iinc (z := (v2 + 1)) (lo' := [some (.ref a0), some (.int v1), some (.int (v2 + 1)), some (.int v3)]) (q := 32) rfl rfl (Nat.le_of_ble_eq_true rfl) (by rw [oi_1]) rfl rfl ?_
        refine y_iinc (z := (v3 + 1)) (lo' := [some (.ref a0), some (.int v1), some (.int (v2 + 1)), some (.int (v3 + 1))]) (q := 35) rfl rfl (Nat.le_of_ble_eq_true rfl) (by rw [oi_1]) rfl rfl ?_
        refine y_goto (q := 11) rfl rfl ?_
        exact lz_X3_seatsAt_11 hd a0 ha0 v1 h k hk n (v2 + 1) (v3 + 1)  
      · skip
        refine y_iinc (z := (v3 + 1)) (lo' := [some (.ref a0), some (.int v1), some (.int v2), some (.int (v3 + 1))]) (q := 35) rfl rfl (Nat.le_of_ble_eq_true rfl) (by rw [oi_1]) rfl rfl ?_
        refine y_goto (q := 11) rfl rfl ?_
        exact lz_X3_seatsAt_11 hd a0 ha0 v1 h k hk n v2 (v3 + 1)  
    · skip
      exact hk v2 v3 
def f_X3_seatsAt (a0 : Nat) (v1 : Int32) (h : dH) : Option (Int32) := if v1.toInt = (-1) then ((some 0)) else (l_X3_seatsAt_11 a0 v1 h (fun v2_8 => (some v2_8)) fuel0 0 0 )
theorem m_X3_seatsAt {d : Nat} (hd : 1 ≤ d) (a0 : Nat) (ha0 : zS a0) (v1 : Int32) (h : dH) : dX shC d 35 [.ref a0, .int v1] (dP h) (f_X3_seatsAt a0 v1 h) h := by
  obtain ⟨e, rfl⟩ : ∃ e, d = e + 1 := ⟨d - 1, by omega⟩
  have hd : 0 ≤ e := by omega
  refine dX_of (mj := mj35) (lo := [some (.ref a0), some (.int v1), none, none]) rfl (Nat.le_of_ble_eq_true rfl) rfl ?_
  unfold f_X3_seatsAt
  refine y_iload_n (q := 1) rfl rfl rfl ?_
  refine y_iconst (x := (-1)) (q := 2) rfl (by decide) rfl ?_
  refine y_ne (q := 7) (q' := 5) rfl rfl (by decide) rfl rfl (fun c1 => ?_) (fun c2 => ?_)
  · skip
    refine y_iconst (x := 0) (q := 6) rfl (by decide) rfl ?_
    exact y_retP rfl (by decide) rfl rfl
  · skip
    refine y_iconst (x := 0) (q := 8) rfl (by decide) rfl ?_
    refine y_istore_n (lo' := [some (.ref a0), some (.int v1), some (.int 0), none]) (q := 9) rfl (Nat.le_of_ble_eq_true rfl) rfl rfl ?_
    refine y_iconst (x := 0) (q := 10) rfl (by decide) rfl ?_
    refine y_istore_n (lo' := [some (.ref a0), some (.int v1), some (.int 0), some (.int 0)]) (q := 11) rfl (Nat.le_of_ble_eq_true rfl) rfl rfl ?_
    refine lz_X3_seatsAt_11 hd a0 ha0 v1 h _ (fun v2_8 z9 => ?_) fuel0 0 0  
    refine y_iload_n (q := 39) rfl rfl rfl ?_
    exact y_retP rfl (by decide) rfl rfl
def l_X3_seated_4 (a0 : Nat) (h : dH) (k : Int32 → Option (Int32)) : Nat → Int32 → Int32 → Option (Int32)
  | 0, _, _ => none
  | n + 1, v1, v2 => if v2.toInt < 4 then (oP (f_X3_seatsAt a0 v2 h) (fun r3 => l_X3_seated_4 a0 h k n (v1 + r3) (v2 + 1) )) else (k v1 )
theorem lz_X3_seated_4 {d : Nat} (hd : 1 ≤ d) (a0 : Nat) (ha0 : zS a0) (h : dH) (k : Int32 → Option (Int32)) (hk : ∀ (v1 : Int32) (w2 : Int32), dY shC d mj36 (dP h) (k v1) 23 [some (.ref a0), some (.int v1), some (.int w2)] [] h) : ∀ (n : Nat) (v1 : Int32) (v2 : Int32), dY shC d mj36 (dP h) (l_X3_seated_4 a0 h k n v1 v2) 4 [some (.ref a0), some (.int v1), some (.int v2)] [] h
  | 0, _, _ => dY_none
  | n + 1, v1, v2 => by
    rw [l_X3_seated_4]
    refine y_iload_n (q := 5) rfl rfl rfl ?_
    refine y_iconst (x := 4) (q := 6) rfl (by decide) rfl ?_
    refine y_ge (q := 23) (q' := 9) rfl rfl (by decide) rfl rfl (fun c1 => ?_) (fun c2 => ?_)
    · skip
      refine y_iload_n (q := 10) rfl rfl rfl ?_
      refine y_aload_n (q := 11) rfl rfl rfl ?_
      refine y_iload_n (q := 12) rfl rfl rfl ?_
      refine y_callP (I := .invokevirtual 55) (idx := 55) (KD := 1) (J := 45) (mj := mj35) (as := [.ref a0, .int v2]) (r := [.int v1]) (q := 15) rfl (fun _ _ _ _ _ _ => rfl) rfl (by decide) rfl rfl rfl rfl rfl (Nat.le_of_ble_eq_true rfl) (d_recv (shS ha0) (by decide) (by decide)) rfl (m_X3_seatsAt (Nat.le_trans (by decide) hd) a0 ha0 v2 h) (fun r3 => ?_)
      refine y_iadd (q := 16) rfl rfl ?_
      refine y_istore_n (lo' := [some (.ref a0), some (.int (v1 + r3)), some (.int v2)]) (q := 17) rfl (Nat.le_of_ble_eq_true rfl) rfl rfl ?_
      refine y_iinc (z := (v2 + 1)) (lo' := [some (.ref a0), some (.int (v1 + r3)), some (.int (v2 + 1))]) (q := 20) rfl rfl (Nat.le_of_ble_eq_true rfl) (by rw [oi_1]) rfl rfl ?_
      refine y_goto (q := 4) rfl rfl ?_
      exact lz_X3_seated_4 hd a0 ha0 h k hk n (v1 + r3) (v2 + 1)  
    · skip
      exact hk v1 v2 
def f_X3_seated (a0 : Nat) (h : dH) : Option (Int32) := l_X3_seated_4 a0 h (fun v1_4 => (some v1_4)) fuel0 0 0 
theorem m_X3_seated {d : Nat} (hd : 2 ≤ d) (a0 : Nat) (ha0 : zS a0) (h : dH) : dX shC d 36 [.ref a0] (dP h) (f_X3_seated a0 h) h := by
  obtain ⟨e, rfl⟩ : ∃ e, d = e + 1 := ⟨d - 1, by omega⟩
  have hd : 1 ≤ e := by omega
  refine dX_of (mj := mj36) (lo := [some (.ref a0), none, none]) rfl (Nat.le_of_ble_eq_true rfl) rfl ?_
  unfold f_X3_seated
  refine y_iconst (x := 0) (q := 1) rfl (by decide) rfl ?_
  refine y_istore_n (lo' := [some (.ref a0), some (.int 0), none]) (q := 2) rfl (Nat.le_of_ble_eq_true rfl) rfl rfl ?_
  refine y_iconst (x := 0) (q := 3) rfl (by decide) rfl ?_
  refine y_istore_n (lo' := [some (.ref a0), some (.int 0), some (.int 0)]) (q := 4) rfl (Nat.le_of_ble_eq_true rfl) rfl rfl ?_
  refine lz_X3_seated_4 hd a0 ha0 h _ (fun v1_4 z5 => ?_) fuel0 0 0  
  refine y_iload_n (q := 24) rfl rfl rfl ?_
  exact y_retP rfl (by decide) rfl rfl
def f_X3_look (a0 : Nat) (v1 : Int32) (v2 : Int32) (h : dH) : Option (dH) := if 0 ≤ v1.toInt ∧ v1.toInt < 8 then (if 0 ≤ v2.toInt ∧ v2.toInt < 8 then (oH (dU h (a0 + 13) 0 (h (a0 + 5 + v1.toInt.toNat) (v2.toInt.toNat))) (fun g3 => if 0 ≤ v1.toInt ∧ v1.toInt < 8 then (oH (dU g3 (a0 + 13) 1 (g3 (a0 + 2) (v1.toInt.toNat))) (fun g5 => if 0 ≤ v2.toInt ∧ v2.toInt < 8 then (oH (dU g5 (a0 + 13) 2 (g5 (a0 + 2) (v2.toInt.toNat))) (fun g7 => if 0 ≤ v1.toInt ∧ v1.toInt < 8 then (oP (f_X3_seatsAt a0 (g7 (a0 + 3) (v1.toInt.toNat)) g7) (fun r9 => oH (dU g7 (a0 + 13) 3 r9) (fun g10 => oH (dU g10 (a0 + 13) 4 (g10 a0 0)) (fun g11 => oH (dU g11 (a0 + 13) 5 (dabs (v1 - v2))) (fun g12 => some g12))))) else none)) else none)) else none)) else none) else none
theorem m_X3_look {d : Nat} (hd : 2 ≤ d) (a0 : Nat) (ha0 : zS a0) (v1 : Int32) (v2 : Int32) (h : dH) : dX shC d 40 [.ref a0, .int v1, .int v2] dV (f_X3_look a0 v1 v2 h) h := by
  obtain ⟨e, rfl⟩ : ∃ e, d = e + 1 := ⟨d - 1, by omega⟩
  have hd : 1 ≤ e := by omega
  refine dX_of (mj := mj40) (lo := [some (.ref a0), some (.int v1), some (.int v2)]) rfl (Nat.le_of_ble_eq_true rfl) rfl ?_
  unfold f_X3_look
  refine y_aload_n (q := 1) rfl rfl rfl ?_
  refine y_getR (b := (a0 + 13)) (q := 4) rfl rfl (by decide) (shS ha0) rfl rfl ?_
  refine y_iconst (x := 0) (q := 5) rfl (by decide) rfl ?_
  refine y_aload_n (q := 6) rfl rfl rfl ?_
  refine y_getR (b := (a0 + 4)) (q := 9) rfl rfl (by decide) (shS ha0) rfl rfl ?_
  refine y_iload_n (q := 10) rfl rfl rfl ?_
  refine y_guard (fun c1 => ?_)
  refine y_aald (b := (a0 + 5 + v1.toInt.toNat)) (K := v1.toInt.toNat) (X := v1.toInt) (q := 11) hbC rfl (shS4 ha0) (by decide) rfl c1.1 rfl (shS4k _ (by omega : v1.toInt.toNat < 8)) rfl ?_
  refine y_iload_n (q := 12) rfl rfl rfl ?_
  refine y_guard (fun c2 => ?_)
  refine y_iald (n := 8) (N := 8) (X := v2.toInt) (K := v2.toInt.toNat) (q := 13) hbC rfl (shSr ha0 (by omega : v1.toInt.toNat < 8)) rfl rfl c2 rfl rfl ?_
  refine y_iast (n := 6) (N := 6) (X := 0) (K := 0) (q := 14) rfl (shS13 ha0) rfl (by decide) ⟨by decide, by decide⟩ rfl rfl (fun g3 => ?_)
  refine y_aload_n (q := 15) rfl rfl rfl ?_
  refine y_getR (b := (a0 + 13)) (q := 18) rfl rfl (by decide) (shS ha0) rfl rfl ?_
  refine y_iconst (x := 1) (q := 19) rfl (by decide) rfl ?_
  refine y_aload_n (q := 20) rfl rfl rfl ?_
  refine y_getR (b := (a0 + 2)) (q := 23) rfl rfl (by decide) (shS ha0) rfl rfl ?_
  refine y_iload_n (q := 24) rfl rfl rfl ?_
  refine y_guard (fun c4 => ?_)
  refine y_iald (n := 8) (N := 8) (X := v1.toInt) (K := v1.toInt.toNat) (q := 25) hbC rfl (shS2 ha0) rfl rfl c4 rfl rfl ?_
  refine y_iast (n := 6) (N := 6) (X := 1) (K := 1) (q := 26) rfl (shS13 ha0) rfl (by decide) ⟨by decide, by decide⟩ rfl rfl (fun g5 => ?_)
  refine y_aload_n (q := 27) rfl rfl rfl ?_
  refine y_getR (b := (a0 + 13)) (q := 30) rfl rfl (by decide) (shS ha0) rfl rfl ?_
  refine y_iconst (x := 2) (q := 31) rfl (by decide) rfl ?_
  refine y_aload_n (q := 32) rfl rfl rfl ?_
  refine y_getR (b := (a0 + 2)) (q := 35) rfl rfl (by decide) (shS ha0) rfl rfl ?_
  refine y_iload_n (q := 36) rfl rfl rfl ?_
  refine y_guard (fun c6 => ?_)
  refine y_iald (n := 8) (N := 8) (X := v2.toInt) (K := v2.toInt.toNat) (q := 37) hbC rfl (shS2 ha0) rfl rfl c6 rfl rfl ?_
  refine y_iast (n := 6) (N := 6) (X := 2) (K := 2) (q := 38) rfl (shS13 ha0) rfl (by decide) ⟨by decide, by decide⟩ rfl rfl (fun g7 => ?_)
  refine y_aload_n (q := 39) rfl rfl rfl ?_
  refine y_getR (b := (a0 + 13)) (q := 42) rfl rfl (by decide) (shS ha0) rfl rfl ?_
  refine y_iconst (x := 3) (q := 43) rfl (by decide) rfl ?_
  refine y_aload_n (q := 44) rfl rfl rfl ?_
  refine y_aload_n (q := 45) rfl rfl rfl ?_
  refine y_getR (b := (a0 + 3)) (q := 48) rfl rfl (by decide) (shS ha0) rfl rfl ?_
  refine y_iload_n (q := 49) rfl rfl rfl ?_
  refine y_guard (fun c8 => ?_)
  refine y_iald (n := 8) (N := 8) (X := v1.toInt) (K := v1.toInt.toNat) (q := 50) hbC rfl (shS3 ha0) rfl rfl c8 rfl rfl ?_
  refine y_callP (I := .invokevirtual 55) (idx := 55) (KD := 1) (J := 45) (mj := mj35) (as := [.ref a0, .int (g7 (a0 + 3) (v1.toInt.toNat))]) (r := [.int 3, .ref (a0 + 13)]) (q := 53) rfl (fun _ _ _ _ _ _ => rfl) rfl (by decide) rfl rfl rfl rfl rfl (Nat.le_of_ble_eq_true rfl) (d_recv (shS ha0) (by decide) (by decide)) rfl (m_X3_seatsAt (Nat.le_trans (by decide) hd) a0 ha0 (g7 (a0 + 3) (v1.toInt.toNat)) g7) (fun r9 => ?_)
  refine y_iast (n := 6) (N := 6) (X := 3) (K := 3) (q := 54) rfl (shS13 ha0) rfl (by decide) ⟨by decide, by decide⟩ rfl rfl (fun g10 => ?_)
  refine y_aload_n (q := 55) rfl rfl rfl ?_
  refine y_getR (b := (a0 + 13)) (q := 58) rfl rfl (by decide) (shS ha0) rfl rfl ?_
  refine y_iconst (x := 4) (q := 59) rfl (by decide) rfl ?_
  refine y_aload_n (q := 60) rfl rfl rfl ?_
  refine y_getI (q := 63) rfl rfl (by decide) (shS ha0) rfl rfl ?_
  refine y_iast (n := 6) (N := 6) (X := 4) (K := 4) (q := 64) rfl (shS13 ha0) rfl (by decide) ⟨by decide, by decide⟩ rfl rfl (fun g11 => ?_)
  refine y_aload_n (q := 65) rfl rfl rfl ?_
  refine y_getR (b := (a0 + 13)) (q := 68) rfl rfl (by decide) (shS ha0) rfl rfl ?_
  refine y_iconst (x := 5) (q := 69) rfl (by decide) rfl ?_
  refine y_iload_n (q := 70) rfl rfl rfl ?_
  refine y_iload_n (q := 71) rfl rfl rfl ?_
  refine y_isub (q := 72) rfl rfl ?_
  refine y_abs (q := 75) rfl rfl (Nat.le_of_ble_eq_true rfl) rfl ?_
  refine y_iast (n := 6) (N := 6) (X := 5) (K := 5) (q := 76) rfl (shS13 ha0) rfl (by decide) ⟨by decide, by decide⟩ rfl rfl (fun g12 => ?_)
  exact y_retV rfl rfl rfl
def f_X5_joined (v0 : Int32) (v1 : Int32) (v2 : Int32) : Option (Int32) := if v0.toInt = (-12) then ((some (v1 - v2))) else (if v0.toInt = (-11) then ((some (v1 + v2))) else (if v0.toInt = (-10) then (if v1.toInt = v2.toInt then ((some 1)) else ((some 0))) else (if v0.toInt = (-9) then (if v1.toInt < v2.toInt then ((some 1)) else ((some 0))) else (if v0.toInt = (-8) then (if v1.toInt = 0 then ((some 0)) else (if v2.toInt = 0 then ((some 0)) else ((some 1)))) else (if v0.toInt = (-7) then (if v1.toInt = 0 then (if v2.toInt = 0 then ((some 0)) else ((some 1))) else ((some 1))) else ((some (v1 * v2))))))))
theorem m_X5_joined {d : Nat} (hd : 1 ≤ d) (v0 : Int32) (v1 : Int32) (v2 : Int32) (h : dH) : dX shC d 64 [.int v0, .int v1, .int v2] (dP h) (f_X5_joined v0 v1 v2) h := by
  obtain ⟨e, rfl⟩ : ∃ e, d = e + 1 := ⟨d - 1, by omega⟩
  have hd : 0 ≤ e := by omega
  refine dX_of (mj := mj64) (lo := [some (.int v0), some (.int v1), some (.int v2)]) rfl (Nat.le_of_ble_eq_true rfl) rfl ?_
  unfold f_X5_joined
  refine y_iload_n (q := 1) rfl rfl rfl ?_
  refine dY_ite (fun c1 => ?_) (fun c2 => ?_)
  · skip
    refine y_tabI (q := 94) (-12) rfl c1 (by decide) (by decide) rfl rfl ?_
    refine y_iload_n (q := 95) rfl rfl rfl ?_
    refine y_iload_n (q := 96) rfl rfl rfl ?_
    refine y_isub (q := 97) rfl rfl ?_
    exact y_retP rfl (by decide) rfl rfl
  refine dY_ite (fun c3 => ?_) (fun c4 => ?_)
  · skip
    refine y_tabI (q := 90) (-11) rfl c3 (by decide) (by decide) rfl rfl ?_
    refine y_iload_n (q := 91) rfl rfl rfl ?_
    refine y_iload_n (q := 92) rfl rfl rfl ?_
    refine y_iadd (q := 93) rfl rfl ?_
    exact y_retP rfl (by decide) rfl rfl
  refine dY_ite (fun c5 => ?_) (fun c6 => ?_)
  · skip
    refine y_tabI (q := 79) (-10) rfl c5 (by decide) (by decide) rfl rfl ?_
    refine y_iload_n (q := 80) rfl rfl rfl ?_
    refine y_iload_n (q := 81) rfl rfl rfl ?_
    refine y_ne (q := 88) (q' := 84) rfl rfl rfl rfl rfl (fun c7 => ?_) (fun c8 => ?_)
    · skip
      refine y_iconst (x := 1) (q := 85) rfl (by decide) rfl ?_
      refine y_goto (q := 89) rfl rfl ?_
      exact y_retP rfl (by decide) rfl rfl
    · skip
      refine y_iconst (x := 0) (q := 89) rfl (by decide) rfl ?_
      exact y_retP rfl (by decide) rfl rfl
  refine dY_ite (fun c9 => ?_) (fun c10 => ?_)
  · skip
    refine y_tabI (q := 68) (-9) rfl c9 (by decide) (by decide) rfl rfl ?_
    refine y_iload_n (q := 69) rfl rfl rfl ?_
    refine y_iload_n (q := 70) rfl rfl rfl ?_
    refine y_ge (q := 77) (q' := 73) rfl rfl rfl rfl rfl (fun c11 => ?_) (fun c12 => ?_)
    · skip
      refine y_iconst (x := 1) (q := 74) rfl (by decide) rfl ?_
      refine y_goto (q := 78) rfl rfl ?_
      exact y_retP rfl (by decide) rfl rfl
    · skip
      refine y_iconst (x := 0) (q := 78) rfl (by decide) rfl ?_
      exact y_retP rfl (by decide) rfl rfl
  refine dY_ite (fun c13 => ?_) (fun c14 => ?_)
  · skip
    refine y_tabI (q := 54) (-8) rfl c13 (by decide) (by decide) rfl rfl ?_
    refine y_iload_n (q := 55) rfl rfl rfl ?_
    refine y_eq0 (q := 66) (q' := 58) rfl rfl rfl rfl (fun c15 => ?_) (fun c16 => ?_)
    · skip
      refine y_iconst (x := 0) (q := 67) rfl (by decide) rfl ?_
      exact y_retP rfl (by decide) rfl rfl
    · skip
      refine y_iload_n (q := 59) rfl rfl rfl ?_
      refine y_eq0 (q := 66) (q' := 62) rfl rfl rfl rfl (fun c17 => ?_) (fun c18 => ?_)
      · skip
        refine y_iconst (x := 0) (q := 67) rfl (by decide) rfl ?_
        exact y_retP rfl (by decide) rfl rfl
      · skip
        refine y_iconst (x := 1) (q := 63) rfl (by decide) rfl ?_
        refine y_goto (q := 67) rfl rfl ?_
        exact y_retP rfl (by decide) rfl rfl
  refine dY_ite (fun c19 => ?_) (fun c20 => ?_)
  · skip
    refine y_tabI (q := 40) (-7) rfl c19 (by decide) (by decide) rfl rfl ?_
    refine y_iload_n (q := 41) rfl rfl rfl ?_
    refine y_ne0 (q := 48) (q' := 44) rfl rfl rfl rfl (fun c21 => ?_) (fun c22 => ?_)
    · skip
      refine y_iload_n (q := 45) rfl rfl rfl ?_
      refine y_eq0 (q := 52) (q' := 48) rfl rfl rfl rfl (fun c23 => ?_) (fun c24 => ?_)
      · skip
        refine y_iconst (x := 0) (q := 53) rfl (by decide) rfl ?_
        exact y_retP rfl (by decide) rfl rfl
      · skip
        refine y_iconst (x := 1) (q := 49) rfl (by decide) rfl ?_
        refine y_goto (q := 53) rfl rfl ?_
        exact y_retP rfl (by decide) rfl rfl
    · skip
      refine y_iconst (x := 1) (q := 49) rfl (by decide) rfl ?_
      refine y_goto (q := 53) rfl rfl ?_
      exact y_retP rfl (by decide) rfl rfl
  refine y_tabD (q := 98) rfl (by omega) rfl ?_
  refine y_iload_n (q := 99) rfl rfl rfl ?_
  refine y_iload_n (q := 100) rfl rfl rfl ?_
  refine y_imul (q := 101) rfl rfl ?_
  exact y_retP rfl (by decide) rfl rfl
def f_X5_turned (v0 : Int32) (v1 : Int32) : Option (Int32) := if v0.toInt = (-15) then ((some (-v1))) else (if v1.toInt = 0 then ((some 1)) else ((some 0)))
theorem m_X5_turned {d : Nat} (hd : 1 ≤ d) (v0 : Int32) (v1 : Int32) (h : dH) : dX shC d 63 [.int v0, .int v1] (dP h) (f_X5_turned v0 v1) h := by
  obtain ⟨e, rfl⟩ : ∃ e, d = e + 1 := ⟨d - 1, by omega⟩
  have hd : 0 ≤ e := by omega
  refine dX_of (mj := mj63) (lo := [some (.int v0), some (.int v1)]) rfl (Nat.le_of_ble_eq_true rfl) rfl ?_
  unfold f_X5_turned
  refine y_iload_n (q := 1) rfl rfl rfl ?_
  refine y_bipush (x := (-15)) (q := 3) rfl (by decide) rfl ?_
  refine y_ne (q := 9) (q' := 6) rfl rfl (by decide) rfl rfl (fun c1 => ?_) (fun c2 => ?_)
  · skip
    refine y_iload_n (q := 7) rfl rfl rfl ?_
    refine y_ineg (q := 8) rfl rfl ?_
    exact y_retP rfl (by decide) rfl rfl
  · skip
    refine y_iload_n (q := 10) rfl rfl rfl ?_
    refine y_ne0 (q := 17) (q' := 13) rfl rfl rfl rfl (fun c3 => ?_) (fun c4 => ?_)
    · skip
      refine y_iconst (x := 1) (q := 14) rfl (by decide) rfl ?_
      refine y_goto (q := 18) rfl rfl ?_
      exact y_retP rfl (by decide) rfl rfl
    · skip
      refine y_iconst (x := 0) (q := 18) rfl (by decide) rfl ?_
      exact y_retP rfl (by decide) rfl rfl
def l_X5_value_23 (a0 : Nat) (v1 : Int32) (a2 : Nat) (k : Int32 → dH → Option (Int32 × dH)) : Nat → Int32 → Int32 → dH → Option (Int32 × dH)
  | 0, _, _, _ => none
  | n + 1, v4, v5, h => if 0 ≤ v1.toInt ∧ v1.toInt < 3 then (if v5.toInt < (h (a0 + 2) (v1.toInt.toNat)).toInt then (if 0 ≤ v5.toInt ∧ v5.toInt < 160 then (if (h (a0 + 1) (v5.toInt.toNat)).toInt < (-6) then (if (-14) < (h (a0 + 1) (v5.toInt.toNat)).toInt then (if 1 < v4.toInt then (if 0 ≤ ((v4 + (-1)) - 1).toInt ∧ ((v4 + (-1)) - 1).toInt < 40 then (if 0 ≤ (v4 + (-1)).toInt ∧ (v4 + (-1)).toInt < 40 then (oP (f_X5_joined (h (a0 + 1) (v5.toInt.toNat)) (h (a0 + 3) (((v4 + (-1)) - 1).toInt.toNat)) (h (a0 + 3) ((v4 + (-1)).toInt.toNat))) (fun r15 => if 0 ≤ ((v4 + (-1)) - 1).toInt ∧ ((v4 + (-1)) - 1).toInt < 40 then (oH (dU h (a0 + 3) (((v4 + (-1)) - 1).toInt.toNat) r15) (fun g16 => l_X5_value_23 a0 v1 a2 k n (v4 + (-1)) (v5 + 1) g16)) else none)) else none) else none) else (l_X5_value_23 a0 v1 a2 k n v4 (v5 + 1) h)) else (if 0 < v4.toInt then (if 0 ≤ (v4 - 1).toInt ∧ (v4 - 1).toInt < 40 then (oP (f_X5_turned (h (a0 + 1) (v5.toInt.toNat)) (h (a0 + 3) ((v4 - 1).toInt.toNat))) (fun r21 => if 0 ≤ (v4 - 1).toInt ∧ (v4 - 1).toInt < 40 then (oH (dU h (a0 + 3) ((v4 - 1).toInt.toNat) r21) (fun g22 => l_X5_value_23 a0 v1 a2 k n v4 (v5 + 1) g22)) else none)) else none) else (l_X5_value_23 a0 v1 a2 k n v4 (v5 + 1) h))) else (if v4.toInt < 40 then (if (h (a0 + 1) (v5.toInt.toNat)).toInt < 0 then (if 0 ≤ ((-1) - (h (a0 + 1) (v5.toInt.toNat))).toInt ∧ ((-1) - (h (a0 + 1) (v5.toInt.toNat))).toInt < 6 then (if 0 ≤ v4.toInt ∧ v4.toInt < 40 then (oH (dU h (a0 + 3) (v4.toInt.toNat) (h a2 (((-1) - (h (a0 + 1) (v5.toInt.toNat))).toInt.toNat))) (fun g29 => l_X5_value_23 a0 v1 a2 k n (v4 + 1) (v5 + 1) g29)) else none) else none) else (if 0 ≤ v4.toInt ∧ v4.toInt < 40 then (oH (dU h (a0 + 3) (v4.toInt.toNat) (h (a0 + 1) (v5.toInt.toNat))) (fun g31 => l_X5_value_23 a0 v1 a2 k n (v4 + 1) (v5 + 1) g31)) else none)) else (l_X5_value_23 a0 v1 a2 k n v4 (v5 + 1) h))) else none) else (k v4 h)) else none
theorem lz_X5_value_23 {d : Nat} (hd : 1 ≤ d) (a0 : Nat) (ha0 : zT a0) (v1 : Int32) (a2 : Nat) (ha2 : zA shC a2 6) (v3 : Int32) (k : Int32 → dH → Option (Int32 × dH)) (hk : ∀ (v4 : Int32) (w5 : Int32) (z6 : Option Value) (h : dH), dY shC d mj62 dI (k v4 h) 169 [some (.ref a0), some (.int v1), some (.ref a2), some (.int v3), some (.int v4), some (.int w5), z6] [] h) : ∀ (n : Nat) (v4 : Int32) (v5 : Int32) (h : dH) (z6 : Option Value), dY shC d mj62 dI (l_X5_value_23 a0 v1 a2 k n v4 v5 h) 23 [some (.ref a0), some (.int v1), some (.ref a2), some (.int v3), some (.int v4), some (.int v5), z6] [] h
  | 0, _, _, _, _ => dY_none
  | n + 1, v4, v5, h, z6 => by
    rw [l_X5_value_23]
    refine y_iload (q := 25) rfl rfl rfl ?_
    refine y_aload_n (q := 26) rfl rfl rfl ?_
    refine y_getR (b := (a0 + 2)) (q := 29) rfl rfl (by decide) (shT ha0) rfl rfl ?_
    refine y_iload_n (q := 30) rfl rfl rfl ?_
    refine y_guard (fun c3 => ?_)
    refine y_iald (n := 3) (N := 3) (X := v1.toInt) (K := v1.toInt.toNat) (q := 31) hbC rfl (shT2 ha0) rfl rfl c3 rfl rfl ?_
    refine y_ge (q := 169) (q' := 34) rfl rfl rfl rfl rfl (fun c4 => ?_) (fun c5 => ?_)
    · skip
      refine y_aload_n (q := 35) rfl rfl rfl ?_
      refine y_getR (b := (a0 + 1)) (q := 38) rfl rfl (by decide) (shT ha0) rfl rfl ?_
      refine y_iload (q := 40) rfl rfl rfl ?_
      refine y_guard (fun c6 => ?_)
      refine y_iald (n := 160) (N := 160) (X := v5.toInt) (K := v5.toInt.toNat) (q := 41) hbC rfl (shT1 ha0) rfl rfl c6 rfl rfl ?_
      refine y_istore (lo' := [some (.ref a0), some (.int v1), some (.ref a2), some (.int v3), some (.int v4), some (.int v5), some (.int (h (a0 + 1) (v5.toInt.toNat)))]) (q := 43) rfl (Nat.le_of_ble_eq_true rfl) rfl rfl ?_
      refine y_iload (q := 45) rfl rfl rfl ?_
      refine y_bipush (x := (-6)) (q := 47) rfl (by decide) rfl ?_
      refine y_lt (q := 86) (q' := 50) rfl rfl (by decide) rfl rfl (fun c7 => ?_) (fun c8 => ?_)
      · skip
        refine y_iload (q := 88) rfl rfl rfl ?_
        refine y_bipush (x := (-14)) (q := 90) rfl (by decide) rfl ?_
        refine y_gt (q := 124) (q' := 93) rfl rfl (by decide) rfl rfl (fun c9 => ?_) (fun c10 => ?_)
        · skip
          refine y_iload (q := 126) rfl rfl rfl ?_
          refine y_iconst (x := 1) (q := 127) rfl (by decide) rfl ?_
          refine y_le (q := 163) (q' := 130) rfl rfl (by decide) rfl rfl (fun c11 => ?_) (fun c12 => ?_)
          · skip
            refine y_iinc (z := (v4 + (-1))) (lo' := [some (.ref a0), some (.int v1), some (.ref a2), some (.int v3), some (.int (v4 + (-1))), some (.int v5), some (.int (h (a0 + 1) (v5.toInt.toNat)))]) (q := 133) rfl rfl (Nat.le_of_ble_eq_true rfl) (by rw [oi_m1]) rfl rfl ?_
            refine y_aload_n (q := 134) rfl rfl rfl ?_
            refine y_getR (b := (a0 + 3)) (q := 137) rfl rfl (by decide) (shT ha0) rfl rfl ?_
            refine y_iload (q := 139) rfl rfl rfl ?_
            refine y_iconst (x := 1) (q := 140) rfl (by decide) rfl ?_
            refine y_isub (q := 141) rfl rfl ?_
            refine y_iload (q := 143) rfl rfl rfl ?_
            refine y_aload_n (q := 144) rfl rfl rfl ?_
            refine y_getR (b := (a0 + 3)) (q := 147) rfl rfl (by decide) (shT ha0) rfl rfl ?_
            refine y_iload (q := 149) rfl rfl rfl ?_
            refine y_iconst (x := 1) (q := 150) rfl (by decide) rfl ?_
            refine y_isub (q := 151) rfl rfl ?_
            refine y_guard (fun c13 => ?_)
            refine y_iald (n := 40) (N := 40) (X := ((v4 + (-1)) - 1).toInt) (K := ((v4 + (-1)) - 1).toInt.toNat) (q := 152) hbC rfl (shT3 ha0) rfl rfl c13 rfl rfl ?_
            refine y_aload_n (q := 153) rfl rfl rfl ?_
            refine y_getR (b := (a0 + 3)) (q := 156) rfl rfl (by decide) (shT ha0) rfl rfl ?_
            refine y_iload (q := 158) rfl rfl rfl ?_
            refine y_guard (fun c14 => ?_)
            refine y_iald (n := 40) (N := 40) (X := (v4 + (-1)).toInt) (K := (v4 + (-1)).toInt.toNat) (q := 159) hbC rfl (shT3 ha0) rfl rfl c14 rfl rfl ?_
            refine y_callP (I := .invokestatic 32) (idx := 32) (KD := 0) (J := 74) (mj := mj64) (as := [.int (h (a0 + 1) (v5.toInt.toNat)), .int (h (a0 + 3) (((v4 + (-1)) - 1).toInt.toNat)), .int (h (a0 + 3) ((v4 + (-1)).toInt.toNat))]) (r := [.int ((v4 + (-1)) - 1), .ref (a0 + 3)]) (q := 162) rfl (fun _ _ _ _ _ _ => rfl) rfl (by decide) rfl rfl rfl rfl rfl (Nat.le_of_ble_eq_true rfl) rfl rfl (m_X5_joined (Nat.le_trans (by decide) hd) (h (a0 + 1) (v5.toInt.toNat)) (h (a0 + 3) (((v4 + (-1)) - 1).toInt.toNat)) (h (a0 + 3) ((v4 + (-1)).toInt.toNat)) h) (fun r15 => ?_)
            refine y_guard (fun c17 => ?_)
            refine y_iast (n := 40) (N := 40) (X := ((v4 + (-1)) - 1).toInt) (K := ((v4 + (-1)) - 1).toInt.toNat) (q := 163) rfl (shT3 ha0) rfl rfl c17 rfl rfl (fun g16 => ?_)
            refine y_iinc (z := (v5 + 1)) (lo' := [some (.ref a0), some (.int v1), some (.ref a2), some (.int v3), some (.int (v4 + (-1))), some (.int (v5 + 1)), some (.int (h (a0 + 1) (v5.toInt.toNat)))]) (q := 166) rfl rfl (Nat.le_of_ble_eq_true rfl) (by rw [oi_1]) rfl rfl ?_
            refine y_goto (q := 23) rfl rfl ?_
            exact lz_X5_value_23 hd a0 ha0 v1 a2 ha2 v3 k hk n (v4 + (-1)) (v5 + 1) g16 (some (.int (h (a0 + 1) (v5.toInt.toNat))))
          · skip
            refine y_iinc (z := (v5 + 1)) (lo' := [some (.ref a0), some (.int v1), some (.ref a2), some (.int v3), some (.int v4), some (.int (v5 + 1)), some (.int (h (a0 + 1) (v5.toInt.toNat)))]) (q := 166) rfl rfl (Nat.le_of_ble_eq_true rfl) (by rw [oi_1]) rfl rfl ?_
            refine y_goto (q := 23) rfl rfl ?_
            exact lz_X5_value_23 hd a0 ha0 v1 a2 ha2 v3 k hk n v4 (v5 + 1) h (some (.int (h (a0 + 1) (v5.toInt.toNat))))
        · skip
          refine y_iload (q := 95) rfl rfl rfl ?_
          refine y_le0 (q := 163) (q' := 98) rfl rfl rfl rfl (fun c18 => ?_) (fun c19 => ?_)
          · skip
            refine y_aload_n (q := 99) rfl rfl rfl ?_
            refine y_getR (b := (a0 + 3)) (q := 102) rfl rfl (by decide) (shT ha0) rfl rfl ?_
            refine y_iload (q := 104) rfl rfl rfl ?_
            refine y_iconst (x := 1) (q := 105) rfl (by decide) rfl ?_
            refine y_isub (q := 106) rfl rfl ?_
            refine y_iload (q := 108) rfl rfl rfl ?_
            refine y_aload_n (q := 109) rfl rfl rfl ?_
            refine y_getR (b := (a0 + 3)) (q := 112) rfl rfl (by decide) (shT ha0) rfl rfl ?_
            refine y_iload (q := 114) rfl rfl rfl ?_
            refine y_iconst (x := 1) (q := 115) rfl (by decide) rfl ?_
            refine y_isub (q := 116) rfl rfl ?_
            refine y_guard (fun c20 => ?_)
            refine y_iald (n := 40) (N := 40) (X := (v4 - 1).toInt) (K := (v4 - 1).toInt.toNat) (q := 117) hbC rfl (shT3 ha0) rfl rfl c20 rfl rfl ?_
            refine y_callP (I := .invokestatic 28) (idx := 28) (KD := 0) (J := 73) (mj := mj63) (as := [.int (h (a0 + 1) (v5.toInt.toNat)), .int (h (a0 + 3) ((v4 - 1).toInt.toNat))]) (r := [.int (v4 - 1), .ref (a0 + 3)]) (q := 120) rfl (fun _ _ _ _ _ _ => rfl) rfl (by decide) rfl rfl rfl rfl rfl (Nat.le_of_ble_eq_true rfl) rfl rfl (m_X5_turned (Nat.le_trans (by decide) hd) (h (a0 + 1) (v5.toInt.toNat)) (h (a0 + 3) ((v4 - 1).toInt.toNat)) h) (fun r21 => ?_)
            refine y_guard (fun c23 => ?_)
            refine y_iast (n := 40) (N := 40) (X := (v4 - 1).toInt) (K := (v4 - 1).toInt.toNat) (q := 121) rfl (shT3 ha0) rfl rfl c23 rfl rfl (fun g22 => ?_)
            refine y_goto (q := 163) rfl rfl ?_
            refine y_iinc (z := (v5 + 1)) (lo' := [some (.ref a0), some (.int v1), some (.ref a2), some (.int v3), some (.int v4), some (.int (v5 + 1)), some (.int (h (a0 + 1) (v5.toInt.toNat)))]) (q := 166) rfl rfl (Nat.le_of_ble_eq_true rfl) (by rw [oi_1]) rfl rfl ?_
            refine y_goto (q := 23) rfl rfl ?_
            exact lz_X5_value_23 hd a0 ha0 v1 a2 ha2 v3 k hk n v4 (v5 + 1) g22 (some (.int (h (a0 + 1) (v5.toInt.toNat))))
          · skip
            refine y_iinc (z := (v5 + 1)) (lo' := [some (.ref a0), some (.int v1), some (.ref a2), some (.int v3), some (.int v4), some (.int (v5 + 1)), some (.int (h (a0 + 1) (v5.toInt.toNat)))]) (q := 166) rfl rfl (Nat.le_of_ble_eq_true rfl) (by rw [oi_1]) rfl rfl ?_
            refine y_goto (q := 23) rfl rfl ?_
            exact lz_X5_value_23 hd a0 ha0 v1 a2 ha2 v3 k hk n v4 (v5 + 1) h (some (.int (h (a0 + 1) (v5.toInt.toNat))))
      · skip
        refine y_iload (q := 52) rfl rfl rfl ?_
        refine y_bipush (x := 40) (q := 54) rfl (by decide) rfl ?_
        refine y_ge (q := 163) (q' := 57) rfl rfl (by decide) rfl rfl (fun c24 => ?_) (fun c25 => ?_)
        · skip
          refine y_aload_n (q := 58) rfl rfl rfl ?_
          refine y_getR (b := (a0 + 3)) (q := 61) rfl rfl (by decide) (shT ha0) rfl rfl ?_
          refine y_iload (q := 63) rfl rfl rfl ?_
          refine y_iload (q := 65) rfl rfl rfl ?_
          refine y_lt0 (q := 73) (q' := 68) rfl rfl rfl rfl (fun c26 => ?_) (fun c27 => ?_)
          · skip
            refine y_aload_n (q := 74) rfl rfl rfl ?_
            refine y_iconst (x := (-1)) (q := 75) rfl (by decide) rfl ?_
            refine y_iload (q := 77) rfl rfl rfl ?_
            refine y_isub (q := 78) rfl rfl ?_
            refine y_guard (fun c28 => ?_)
            refine y_iald (n := 6) (N := 6) (X := ((-1) - (h (a0 + 1) (v5.toInt.toNat))).toInt) (K := ((-1) - (h (a0 + 1) (v5.toInt.toNat))).toInt.toNat) (q := 79) hbC rfl ha2 rfl rfl c28 rfl rfl ?_
            refine y_guard (fun c30 => ?_)
            refine y_iast (n := 40) (N := 40) (X := v4.toInt) (K := v4.toInt.toNat) (q := 80) rfl (shT3 ha0) rfl rfl c30 rfl rfl (fun g29 => ?_)
            refine y_iinc (z := (v4 + 1)) (lo' := [some (.ref a0), some (.int v1), some (.ref a2), some (.int v3), some (.int (v4 + 1)), some (.int v5), some (.int (h (a0 + 1) (v5.toInt.toNat)))]) (q := 83) rfl rfl (Nat.le_of_ble_eq_true rfl) (by rw [oi_1]) rfl rfl ?_
            refine y_goto (q := 163) rfl rfl ?_
            refine y_iinc (z := (v5 + 1)) (lo' := [some (.ref a0), some (.int v1), some (.ref a2), some (.int v3), some (.int (v4 + 1)), some (.int (v5 + 1)), some (.int (h (a0 + 1) (v5.toInt.toNat)))]) (q := 166) rfl rfl (Nat.le_of_ble_eq_true rfl) (by rw [oi_1]) rfl rfl ?_
            refine y_goto (q := 23) rfl rfl ?_
            exact lz_X5_value_23 hd a0 ha0 v1 a2 ha2 v3 k hk n (v4 + 1) (v5 + 1) g29 (some (.int (h (a0 + 1) (v5.toInt.toNat))))
          · skip
            refine y_iload (q := 70) rfl rfl rfl ?_
            refine y_goto (q := 79) rfl rfl ?_
            refine y_guard (fun c32 => ?_)
            refine y_iast (n := 40) (N := 40) (X := v4.toInt) (K := v4.toInt.toNat) (q := 80) rfl (shT3 ha0) rfl rfl c32 rfl rfl (fun g31 => ?_)
            refine y_iinc (z := (v4 + 1)) (lo' := [some (.ref a0), some (.int v1), some (.ref a2), some (.int v3), some (.int (v4 + 1)), some (.int v5), some (.int (h (a0 + 1) (v5.toInt.toNat)))]) (q := 83) rfl rfl (Nat.le_of_ble_eq_true rfl) (by rw [oi_1]) rfl rfl ?_
            refine y_goto (q := 163) rfl rfl ?_
            refine y_iinc (z := (v5 + 1)) (lo' := [some (.ref a0), some (.int v1), some (.ref a2), some (.int v3), some (.int (v4 + 1)), some (.int (v5 + 1)), some (.int (h (a0 + 1) (v5.toInt.toNat)))]) (q := 166) rfl rfl (Nat.le_of_ble_eq_true rfl) (by rw [oi_1]) rfl rfl ?_
            refine y_goto (q := 23) rfl rfl ?_
            exact lz_X5_value_23 hd a0 ha0 v1 a2 ha2 v3 k hk n (v4 + 1) (v5 + 1) g31 (some (.int (h (a0 + 1) (v5.toInt.toNat))))
        · skip
          refine y_iinc (z := (v5 + 1)) (lo' := [some (.ref a0), some (.int v1), some (.ref a2), some (.int v3), some (.int v4), some (.int (v5 + 1)), some (.int (h (a0 + 1) (v5.toInt.toNat)))]) (q := 166) rfl rfl (Nat.le_of_ble_eq_true rfl) (by rw [oi_1]) rfl rfl ?_
          refine y_goto (q := 23) rfl rfl ?_
          exact lz_X5_value_23 hd a0 ha0 v1 a2 ha2 v3 k hk n v4 (v5 + 1) h (some (.int (h (a0 + 1) (v5.toInt.toNat))))
    · skip
      exact hk v4 v5 (z6) h
def f_X5_value (a0 : Nat) (v1 : Int32) (a2 : Nat) (h : dH) : Option (Int32 × dH) := if v1.toInt = 0 then (l_X5_value_23 a0 v1 a2  (fun v4_33 g36 => if 0 < v4_33.toInt then (some ((dmax 0 (dmin 60 (g36 (a0 + 3) 0))), g36)) else (some (0, g36))) fuel0 0 0 h) else (if 0 ≤ (v1 - 1).toInt ∧ (v1 - 1).toInt < 3 then (l_X5_value_23 a0 v1 a2  (fun v4_40 g43 => if 0 < v4_40.toInt then (some ((dmax 0 (dmin 60 (g43 (a0 + 3) 0))), g43)) else (some (0, g43))) fuel0 0 (h (a0 + 2) ((v1 - 1).toInt.toNat)) h) else none)
theorem m_X5_value {d : Nat} (hd : 2 ≤ d) (a0 : Nat) (ha0 : zT a0) (v1 : Int32) (a2 : Nat) (ha2 : zA shC a2 6) (h : dH) : dX shC d 62 [.ref a0, .int v1, .ref a2] dI (f_X5_value a0 v1 a2 h) h := by
  obtain ⟨e, rfl⟩ : ∃ e, d = e + 1 := ⟨d - 1, by omega⟩
  have hd : 1 ≤ e := by omega
  refine dX_of (mj := mj62) (lo := [some (.ref a0), some (.int v1), some (.ref a2), none, none, none, none]) rfl (Nat.le_of_ble_eq_true rfl) rfl ?_
  unfold f_X5_value
  refine y_iload_n (q := 1) rfl rfl rfl ?_
  refine y_ne0 (q := 8) (q' := 4) rfl rfl rfl rfl (fun c1 => ?_) (fun c2 => ?_)
  · skip
    refine y_iconst (x := 0) (q := 5) rfl (by decide) rfl ?_
    refine y_goto (q := 16) rfl rfl ?_
    refine y_istore_n (lo' := [some (.ref a0), some (.int v1), some (.ref a2), some (.int 0), none, none, none]) (q := 17) rfl (Nat.le_of_ble_eq_true rfl) rfl rfl ?_
    refine y_iconst (x := 0) (q := 18) rfl (by decide) rfl ?_
    refine y_istore (lo' := [some (.ref a0), some (.int v1), some (.ref a2), some (.int 0), some (.int 0), none, none]) (q := 20) rfl (Nat.le_of_ble_eq_true rfl) rfl rfl ?_
    refine y_iload_n (q := 21) rfl rfl rfl ?_
    refine y_istore (lo' := [some (.ref a0), some (.int v1), some (.ref a2), some (.int 0), some (.int 0), some (.int 0), none]) (q := 23) rfl (Nat.le_of_ble_eq_true rfl) rfl rfl ?_
    refine lz_X5_value_23 hd a0 ha0 v1 a2 ha2 0  _ (fun v4_33 z34 z35 g36 => ?_) fuel0 0 0 h (none)
    refine y_iload (q := 171) rfl rfl rfl ?_
    refine y_le0 (q := 192) (q' := 174) rfl rfl rfl rfl (fun c37 => ?_) (fun c38 => ?_)
    · skip
      refine y_iconst (x := 0) (q := 175) rfl (by decide) rfl ?_
      refine y_bipush (x := 60) (q := 177) rfl (by decide) rfl ?_
      refine y_aload_n (q := 178) rfl rfl rfl ?_
      refine y_getR (b := (a0 + 3)) (q := 181) rfl rfl (by decide) (shT ha0) rfl rfl ?_
      refine y_iconst (x := 0) (q := 182) rfl (by decide) rfl ?_
      refine y_iald (n := 40) (N := 40) (X := 0) (K := 0) (q := 183) hbC rfl (shT3 ha0) rfl (by decide) ⟨by decide, by decide⟩ rfl rfl ?_
      refine y_min (q := 186) rfl rfl (Nat.le_of_ble_eq_true rfl) rfl ?_
      refine y_max (q := 189) rfl rfl (Nat.le_of_ble_eq_true rfl) rfl ?_
      refine y_goto (q := 193) rfl rfl ?_
      exact y_retI rfl (by decide) rfl rfl
    · skip
      refine y_iconst (x := 0) (q := 193) rfl (by decide) rfl ?_
      exact y_retI rfl (by decide) rfl rfl
  · skip
    refine y_aload_n (q := 9) rfl rfl rfl ?_
    refine y_getR (b := (a0 + 2)) (q := 12) rfl rfl (by decide) (shT ha0) rfl rfl ?_
    refine y_iload_n (q := 13) rfl rfl rfl ?_
    refine y_iconst (x := 1) (q := 14) rfl (by decide) rfl ?_
    refine y_isub (q := 15) rfl rfl ?_
    refine y_guard (fun c39 => ?_)
    refine y_iald (n := 3) (N := 3) (X := (v1 - 1).toInt) (K := (v1 - 1).toInt.toNat) (q := 16) hbC rfl (shT2 ha0) rfl rfl c39 rfl rfl ?_
    refine y_istore_n (lo' := [some (.ref a0), some (.int v1), some (.ref a2), some (.int (h (a0 + 2) ((v1 - 1).toInt.toNat))), none, none, none]) (q := 17) rfl (Nat.le_of_ble_eq_true rfl) rfl rfl ?_
    refine y_iconst (x := 0) (q := 18) rfl (by decide) rfl ?_
    refine y_istore (lo' := [some (.ref a0), some (.int v1), some (.ref a2), some (.int (h (a0 + 2) ((v1 - 1).toInt.toNat))), some (.int 0), none, none]) (q := 20) rfl (Nat.le_of_ble_eq_true rfl) rfl rfl ?_
    refine y_iload_n (q := 21) rfl rfl rfl ?_
    refine y_istore (lo' := [some (.ref a0), some (.int v1), some (.ref a2), some (.int (h (a0 + 2) ((v1 - 1).toInt.toNat))), some (.int 0), some (.int (h (a0 + 2) ((v1 - 1).toInt.toNat))), none]) (q := 23) rfl (Nat.le_of_ble_eq_true rfl) rfl rfl ?_
    refine lz_X5_value_23 hd a0 ha0 v1 a2 ha2 (h (a0 + 2) ((v1 - 1).toInt.toNat))  _ (fun v4_40 z41 z42 g43 => ?_) fuel0 0 (h (a0 + 2) ((v1 - 1).toInt.toNat)) h (none)
    refine y_iload (q := 171) rfl rfl rfl ?_
    refine y_le0 (q := 192) (q' := 174) rfl rfl rfl rfl (fun c44 => ?_) (fun c45 => ?_)
    · skip
      refine y_iconst (x := 0) (q := 175) rfl (by decide) rfl ?_
      refine y_bipush (x := 60) (q := 177) rfl (by decide) rfl ?_
      refine y_aload_n (q := 178) rfl rfl rfl ?_
      refine y_getR (b := (a0 + 3)) (q := 181) rfl rfl (by decide) (shT ha0) rfl rfl ?_
      refine y_iconst (x := 0) (q := 182) rfl (by decide) rfl ?_
      refine y_iald (n := 40) (N := 40) (X := 0) (K := 0) (q := 183) hbC rfl (shT3 ha0) rfl (by decide) ⟨by decide, by decide⟩ rfl rfl ?_
      refine y_min (q := 186) rfl rfl (Nat.le_of_ble_eq_true rfl) rfl ?_
      refine y_max (q := 189) rfl rfl (Nat.le_of_ble_eq_true rfl) rfl ?_
      refine y_goto (q := 193) rfl rfl ?_
      exact y_retI rfl (by decide) rfl rfl
    · skip
      refine y_iconst (x := 0) (q := 193) rfl (by decide) rfl ?_
      exact y_retI rfl (by decide) rfl rfl
def f_X3_meets (a0 : Nat) (v1 : Int32) (v2 : Int32) (h : dH) : Option (Int32 × dH) := oV (f_X3_look a0 v1 v2 h) (fun g1 => oI (f_X5_value (dtx (g1 a0 3)) 0 (a0 + 13) g1) (fun r2 g3 => if 0 ≤ v1.toInt ∧ v1.toInt < 8 then (if (g3 (a0 + 1) (v1.toInt.toNat)).toInt = 1 then (some ((2 * r2), g3)) else (if (g3 (a0 + 1) (v1.toInt.toNat)).toInt = 2 then (some ((r2 / 2), g3)) else (if (g3 (a0 + 1) (v1.toInt.toNat)).toInt = 3 then (if 0 ≤ v1.toInt ∧ v1.toInt < 8 then (some (((2 * r2) + (g3 (a0 + 2) (v1.toInt.toNat))), g3)) else none) else (if (g3 (a0 + 1) (v1.toInt.toNat)).toInt = 4 then (if 2 < (g3 (a0 + 13) 5).toInt then (some (0, g3)) else (some ((r2 / 2), g3))) else (if (g3 (a0 + 1) (v1.toInt.toNat)).toInt = 5 then (some (3, g3)) else (some (r2, g3))))))) else none))
theorem m_X3_meets {d : Nat} (hd : 3 ≤ d) (a0 : Nat) (ha0 : zS a0) (v1 : Int32) (v2 : Int32) (h : dH) : dX shC d 37 [.ref a0, .int v1, .int v2] dI (f_X3_meets a0 v1 v2 h) h := by
  obtain ⟨e, rfl⟩ : ∃ e, d = e + 1 := ⟨d - 1, by omega⟩
  have hd : 2 ≤ e := by omega
  refine dX_of (mj := mj37) (lo := [some (.ref a0), some (.int v1), some (.int v2), none]) rfl (Nat.le_of_ble_eq_true rfl) rfl ?_
  unfold f_X3_meets
  refine y_aload_n (q := 1) rfl rfl rfl ?_
  refine y_iload_n (q := 2) rfl rfl rfl ?_
  refine y_iload_n (q := 3) rfl rfl rfl ?_
  refine y_callV (I := .invokevirtual 59) (idx := 59) (KD := 1) (J := 50) (mj := mj40) (as := [.ref a0, .int v1, .int v2]) (r := []) (q := 6) rfl (fun _ _ _ _ _ _ => rfl) rfl (by decide) rfl rfl rfl rfl rfl (Nat.le_of_ble_eq_true rfl) (d_recv (shS ha0) (by decide) (by decide)) rfl (m_X3_look (Nat.le_trans (by decide) hd) a0 ha0 v1 v2 h) (fun g1 => ?_)
  refine y_aload_n (q := 7) rfl rfl rfl ?_
  refine y_getT (q := 10) rfl rfl (by decide) (shS ha0) rfl rfl ?_
  refine y_iconst (x := 0) (q := 11) rfl (by decide) rfl ?_
  refine y_aload_n (q := 12) rfl rfl rfl ?_
  refine y_getR (b := (a0 + 13)) (q := 15) rfl rfl (by decide) (shS ha0) rfl rfl ?_
  refine y_callI (I := .invokevirtual 63) (idx := 63) (KD := 1) (J := 72) (mj := mj62) (as := [.ref (dtx (g1 a0 3)), .int 0, .ref (a0 + 13)]) (r := []) (q := 18) rfl (fun _ _ _ _ _ _ => rfl) rfl (by decide) rfl rfl rfl rfl rfl (Nat.le_of_ble_eq_true rfl) (d_recv (shT (zT_dtx _)) (by decide) (by decide)) rfl (m_X5_value (Nat.le_trans (by decide) hd) (dtx (g1 a0 3)) (zT_dtx _) 0 (a0 + 13) (shS13 ha0) g1) (fun r2 g3 => ?_)
  refine y_istore_n (lo' := [some (.ref a0), some (.int v1), some (.int v2), some (.int r2)]) (q := 19) rfl (Nat.le_of_ble_eq_true rfl) rfl rfl ?_
  refine y_aload_n (q := 20) rfl rfl rfl ?_
  refine y_getR (b := (a0 + 1)) (q := 23) rfl rfl (by decide) (shS ha0) rfl rfl ?_
  refine y_iload_n (q := 24) rfl rfl rfl ?_
  refine y_guard (fun c4 => ?_)
  refine y_iald (n := 8) (N := 8) (X := v1.toInt) (K := v1.toInt.toNat) (q := 25) hbC rfl (shS1 ha0) rfl rfl c4 rfl rfl ?_
  refine dY_ite (fun c5 => ?_) (fun c6 => ?_)
  · skip
    refine y_tabI (q := 60) 1 rfl c5 (by decide) (by decide) rfl rfl ?_
    refine y_iconst (x := 2) (q := 61) rfl (by decide) rfl ?_
    refine y_iload_n (q := 62) rfl rfl rfl ?_
    refine y_imul (q := 63) rfl rfl ?_
    exact y_retI rfl (by decide) rfl rfl
  refine dY_ite (fun c7 => ?_) (fun c8 => ?_)
  · skip
    refine y_tabI (q := 64) 2 rfl c7 (by decide) (by decide) rfl rfl ?_
    refine y_iload_n (q := 65) rfl rfl rfl ?_
    refine y_iconst (x := 2) (q := 66) rfl (by decide) rfl ?_
    refine y_idiv (q := 67) rfl (by decide) rfl ?_
    exact y_retI rfl (by decide) rfl rfl
  refine dY_ite (fun c9 => ?_) (fun c10 => ?_)
  · skip
    refine y_tabI (q := 68) 3 rfl c9 (by decide) (by decide) rfl rfl ?_
    refine y_iconst (x := 2) (q := 69) rfl (by decide) rfl ?_
    refine y_iload_n (q := 70) rfl rfl rfl ?_
    refine y_imul (q := 71) rfl rfl ?_
    refine y_aload_n (q := 72) rfl rfl rfl ?_
    refine y_getR (b := (a0 + 2)) (q := 75) rfl rfl (by decide) (shS ha0) rfl rfl ?_
    refine y_iload_n (q := 76) rfl rfl rfl ?_
    refine y_guard (fun c11 => ?_)
    refine y_iald (n := 8) (N := 8) (X := v1.toInt) (K := v1.toInt.toNat) (q := 77) hbC rfl (shS2 ha0) rfl rfl c11 rfl rfl ?_
    refine y_iadd (q := 78) rfl rfl ?_
    exact y_retI rfl (by decide) rfl rfl
  refine dY_ite (fun c12 => ?_) (fun c13 => ?_)
  · skip
    refine y_tabI (q := 79) 4 rfl c12 (by decide) (by decide) rfl rfl ?_
    refine y_aload_n (q := 80) rfl rfl rfl ?_
    refine y_getR (b := (a0 + 13)) (q := 83) rfl rfl (by decide) (shS ha0) rfl rfl ?_
    refine y_iconst (x := 5) (q := 84) rfl (by decide) rfl ?_
    refine y_iald (n := 6) (N := 6) (X := 5) (K := 5) (q := 85) hbC rfl (shS13 ha0) rfl (by decide) ⟨by decide, by decide⟩ rfl rfl ?_
    refine y_iconst (x := 2) (q := 86) rfl (by decide) rfl ?_
    refine y_le (q := 93) (q' := 89) rfl rfl (by decide) rfl rfl (fun c14 => ?_) (fun c15 => ?_)
    · skip
      refine y_iconst (x := 0) (q := 90) rfl (by decide) rfl ?_
      refine y_goto (q := 96) rfl rfl ?_
      exact y_retI rfl (by decide) rfl rfl
    · skip
      refine y_iload_n (q := 94) rfl rfl rfl ?_
      refine y_iconst (x := 2) (q := 95) rfl (by decide) rfl ?_
      refine y_idiv (q := 96) rfl (by decide) rfl ?_
      exact y_retI rfl (by decide) rfl rfl
  refine dY_ite (fun c16 => ?_) (fun c17 => ?_)
  · skip
    refine y_tabI (q := 97) 5 rfl c16 (by decide) (by decide) rfl rfl ?_
    refine y_iconst (x := 3) (q := 98) rfl (by decide) rfl ?_
    exact y_retI rfl (by decide) rfl rfl
  refine y_tabD (q := 99) rfl (by omega) rfl ?_
  refine y_iload_n (q := 100) rfl rfl rfl ?_
  exact y_retI rfl (by decide) rfl rfl
def f_X3_forgets (a0 : Nat) (v1 : Int32) (v2 : Int32) (h : dH) : Option (Int32 × dH) := oV (f_X3_look a0 v1 v2 h) (fun g1 => oI (f_X5_value (dtx (g1 a0 3)) 1 (a0 + 13) g1) (fun r2 g3 => if 0 ≤ v1.toInt ∧ v1.toInt < 8 then (if (g3 (a0 + 1) (v1.toInt.toNat)).toInt = 1 then (some ((r2 + 1), g3)) else (if (g3 (a0 + 1) (v1.toInt.toNat)).toInt = 2 then (some ((r2 / 2), g3)) else (if (g3 (a0 + 1) (v1.toInt.toNat)).toInt = 3 then (some ((2 * (r2 + 1)), g3)) else (if (g3 (a0 + 1) (v1.toInt.toNat)).toInt = 4 then (if (drem (g3 a0 0) 2).toInt = 0 then (some (0, g3)) else (some ((r2 / 2), g3))) else (some (r2, g3)))))) else none))
theorem m_X3_forgets {d : Nat} (hd : 3 ≤ d) (a0 : Nat) (ha0 : zS a0) (v1 : Int32) (v2 : Int32) (h : dH) : dX shC d 38 [.ref a0, .int v1, .int v2] dI (f_X3_forgets a0 v1 v2 h) h := by
  obtain ⟨e, rfl⟩ : ∃ e, d = e + 1 := ⟨d - 1, by omega⟩
  have hd : 2 ≤ e := by omega
  refine dX_of (mj := mj38) (lo := [some (.ref a0), some (.int v1), some (.int v2), none]) rfl (Nat.le_of_ble_eq_true rfl) rfl ?_
  unfold f_X3_forgets
  refine y_aload_n (q := 1) rfl rfl rfl ?_
  refine y_iload_n (q := 2) rfl rfl rfl ?_
  refine y_iload_n (q := 3) rfl rfl rfl ?_
  refine y_callV (I := .invokevirtual 59) (idx := 59) (KD := 1) (J := 50) (mj := mj40) (as := [.ref a0, .int v1, .int v2]) (r := []) (q := 6) rfl (fun _ _ _ _ _ _ => rfl) rfl (by decide) rfl rfl rfl rfl rfl (Nat.le_of_ble_eq_true rfl) (d_recv (shS ha0) (by decide) (by decide)) rfl (m_X3_look (Nat.le_trans (by decide) hd) a0 ha0 v1 v2 h) (fun g1 => ?_)
  refine y_aload_n (q := 7) rfl rfl rfl ?_
  refine y_getT (q := 10) rfl rfl (by decide) (shS ha0) rfl rfl ?_
  refine y_iconst (x := 1) (q := 11) rfl (by decide) rfl ?_
  refine y_aload_n (q := 12) rfl rfl rfl ?_
  refine y_getR (b := (a0 + 13)) (q := 15) rfl rfl (by decide) (shS ha0) rfl rfl ?_
  refine y_callI (I := .invokevirtual 63) (idx := 63) (KD := 1) (J := 72) (mj := mj62) (as := [.ref (dtx (g1 a0 3)), .int 1, .ref (a0 + 13)]) (r := []) (q := 18) rfl (fun _ _ _ _ _ _ => rfl) rfl (by decide) rfl rfl rfl rfl rfl (Nat.le_of_ble_eq_true rfl) (d_recv (shT (zT_dtx _)) (by decide) (by decide)) rfl (m_X5_value (Nat.le_trans (by decide) hd) (dtx (g1 a0 3)) (zT_dtx _) 1 (a0 + 13) (shS13 ha0) g1) (fun r2 g3 => ?_)
  refine y_istore_n (lo' := [some (.ref a0), some (.int v1), some (.int v2), some (.int r2)]) (q := 19) rfl (Nat.le_of_ble_eq_true rfl) rfl rfl ?_
  refine y_aload_n (q := 20) rfl rfl rfl ?_
  refine y_getR (b := (a0 + 1)) (q := 23) rfl rfl (by decide) (shS ha0) rfl rfl ?_
  refine y_iload_n (q := 24) rfl rfl rfl ?_
  refine y_guard (fun c4 => ?_)
  refine y_iald (n := 8) (N := 8) (X := v1.toInt) (K := v1.toInt.toNat) (q := 25) hbC rfl (shS1 ha0) rfl rfl c4 rfl rfl ?_
  refine dY_ite (fun c5 => ?_) (fun c6 => ?_)
  · skip
    refine y_tabI (q := 56) 1 rfl c5 (by decide) (by decide) rfl rfl ?_
    refine y_iload_n (q := 57) rfl rfl rfl ?_
    refine y_iconst (x := 1) (q := 58) rfl (by decide) rfl ?_
    refine y_iadd (q := 59) rfl rfl ?_
    exact y_retI rfl (by decide) rfl rfl
  refine dY_ite (fun c7 => ?_) (fun c8 => ?_)
  · skip
    refine y_tabI (q := 60) 2 rfl c7 (by decide) (by decide) rfl rfl ?_
    refine y_iload_n (q := 61) rfl rfl rfl ?_
    refine y_iconst (x := 2) (q := 62) rfl (by decide) rfl ?_
    refine y_idiv (q := 63) rfl (by decide) rfl ?_
    exact y_retI rfl (by decide) rfl rfl
  refine dY_ite (fun c9 => ?_) (fun c10 => ?_)
  · skip
    refine y_tabI (q := 64) 3 rfl c9 (by decide) (by decide) rfl rfl ?_
    refine y_iconst (x := 2) (q := 65) rfl (by decide) rfl ?_
    refine y_iload_n (q := 66) rfl rfl rfl ?_
    refine y_iconst (x := 1) (q := 67) rfl (by decide) rfl ?_
    refine y_iadd (q := 68) rfl rfl ?_
    refine y_imul (q := 69) rfl rfl ?_
    exact y_retI rfl (by decide) rfl rfl
  refine dY_ite (fun c11 => ?_) (fun c12 => ?_)
  · skip
    refine y_tabI (q := 70) 4 rfl c11 (by decide) (by decide) rfl rfl ?_
    refine y_aload_n (q := 71) rfl rfl rfl ?_
    refine y_getI (q := 74) rfl rfl (by decide) (shS ha0) rfl rfl ?_
    refine y_iconst (x := 2) (q := 75) rfl (by decide) rfl ?_
    refine y_irem (q := 76) rfl (by decide) rfl ?_
    refine y_ne0 (q := 83) (q' := 79) rfl rfl rfl rfl (fun c13 => ?_) (fun c14 => ?_)
    · skip
      refine y_iconst (x := 0) (q := 80) rfl (by decide) rfl ?_
      refine y_goto (q := 86) rfl rfl ?_
      exact y_retI rfl (by decide) rfl rfl
    · skip
      refine y_iload_n (q := 84) rfl rfl rfl ?_
      refine y_iconst (x := 2) (q := 85) rfl (by decide) rfl ?_
      refine y_idiv (q := 86) rfl (by decide) rfl ?_
      exact y_retI rfl (by decide) rfl rfl
  refine y_tabD (q := 87) rfl (by omega) rfl ?_
  refine y_iload_n (q := 88) rfl rfl rfl ?_
  exact y_retI rfl (by decide) rfl rfl
def f_X3_sounds (a0 : Nat) (v1 : Int32) (h : dH) : Option (Int32 × dH) := oV (f_X3_look a0 v1 v1 h) (fun g1 => oH (dU g1 (a0 + 13) 2 0) (fun g2 => oI (f_X5_value (dtx (g2 a0 3)) 2 (a0 + 13) g2) (fun r3 g4 => if 0 ≤ v1.toInt ∧ v1.toInt < 8 then (if (g4 (a0 + 1) (v1.toInt.toNat)).toInt = 1 then (some ((r3 + 5), g4)) else (if (g4 (a0 + 1) (v1.toInt.toNat)).toInt = 2 then (some (0, g4)) else (if (g4 (a0 + 1) (v1.toInt.toNat)).toInt = 3 then (some ((2 * (r3 + 5)), g4)) else (if (g4 (a0 + 1) (v1.toInt.toNat)).toInt = 4 then (some (0, g4)) else (if (g4 (a0 + 1) (v1.toInt.toNat)).toInt = 5 then (if 0 ≤ v1.toInt ∧ v1.toInt < 8 then (some ((g4 (a0 + 2) (v1.toInt.toNat)), g4)) else none) else (some (r3, g4))))))) else none)))
theorem m_X3_sounds {d : Nat} (hd : 3 ≤ d) (a0 : Nat) (ha0 : zS a0) (v1 : Int32) (h : dH) : dX shC d 39 [.ref a0, .int v1] dI (f_X3_sounds a0 v1 h) h := by
  obtain ⟨e, rfl⟩ : ∃ e, d = e + 1 := ⟨d - 1, by omega⟩
  have hd : 2 ≤ e := by omega
  refine dX_of (mj := mj39) (lo := [some (.ref a0), some (.int v1), none]) rfl (Nat.le_of_ble_eq_true rfl) rfl ?_
  unfold f_X3_sounds
  refine y_aload_n (q := 1) rfl rfl rfl ?_
  refine y_iload_n (q := 2) rfl rfl rfl ?_
  refine y_iload_n (q := 3) rfl rfl rfl ?_
  refine y_callV (I := .invokevirtual 59) (idx := 59) (KD := 1) (J := 50) (mj := mj40) (as := [.ref a0, .int v1, .int v1]) (r := []) (q := 6) rfl (fun _ _ _ _ _ _ => rfl) rfl (by decide) rfl rfl rfl rfl rfl (Nat.le_of_ble_eq_true rfl) (d_recv (shS ha0) (by decide) (by decide)) rfl (m_X3_look (Nat.le_trans (by decide) hd) a0 ha0 v1 v1 h) (fun g1 => ?_)
  refine y_aload_n (q := 7) rfl rfl rfl ?_
  refine y_getR (b := (a0 + 13)) (q := 10) rfl rfl (by decide) (shS ha0) rfl rfl ?_
  refine y_iconst (x := 2) (q := 11) rfl (by decide) rfl ?_
  refine y_iconst (x := 0) (q := 12) rfl (by decide) rfl ?_
  refine y_iast (n := 6) (N := 6) (X := 2) (K := 2) (q := 13) rfl (shS13 ha0) rfl (by decide) ⟨by decide, by decide⟩ rfl rfl (fun g2 => ?_)
  refine y_aload_n (q := 14) rfl rfl rfl ?_
  refine y_getT (q := 17) rfl rfl (by decide) (shS ha0) rfl rfl ?_
  refine y_iconst (x := 2) (q := 18) rfl (by decide) rfl ?_
  refine y_aload_n (q := 19) rfl rfl rfl ?_
  refine y_getR (b := (a0 + 13)) (q := 22) rfl rfl (by decide) (shS ha0) rfl rfl ?_
  refine y_callI (I := .invokevirtual 63) (idx := 63) (KD := 1) (J := 72) (mj := mj62) (as := [.ref (dtx (g2 a0 3)), .int 2, .ref (a0 + 13)]) (r := []) (q := 25) rfl (fun _ _ _ _ _ _ => rfl) rfl (by decide) rfl rfl rfl rfl rfl (Nat.le_of_ble_eq_true rfl) (d_recv (shT (zT_dtx _)) (by decide) (by decide)) rfl (m_X5_value (Nat.le_trans (by decide) hd) (dtx (g2 a0 3)) (zT_dtx _) 2 (a0 + 13) (shS13 ha0) g2) (fun r3 g4 => ?_)
  refine y_istore_n (lo' := [some (.ref a0), some (.int v1), some (.int r3)]) (q := 26) rfl (Nat.le_of_ble_eq_true rfl) rfl rfl ?_
  refine y_aload_n (q := 27) rfl rfl rfl ?_
  refine y_getR (b := (a0 + 1)) (q := 30) rfl rfl (by decide) (shS ha0) rfl rfl ?_
  refine y_iload_n (q := 31) rfl rfl rfl ?_
  refine y_guard (fun c5 => ?_)
  refine y_iald (n := 8) (N := 8) (X := v1.toInt) (K := v1.toInt.toNat) (q := 32) hbC rfl (shS1 ha0) rfl rfl c5 rfl rfl ?_
  refine dY_ite (fun c6 => ?_) (fun c7 => ?_)
  · skip
    refine y_tabI (q := 68) 1 rfl c6 (by decide) (by decide) rfl rfl ?_
    refine y_iload_n (q := 69) rfl rfl rfl ?_
    refine y_iconst (x := 5) (q := 70) rfl (by decide) rfl ?_
    refine y_iadd (q := 71) rfl rfl ?_
    exact y_retI rfl (by decide) rfl rfl
  refine dY_ite (fun c8 => ?_) (fun c9 => ?_)
  · skip
    refine y_tabI (q := 72) 2 rfl c8 (by decide) (by decide) rfl rfl ?_
    refine y_iconst (x := 0) (q := 73) rfl (by decide) rfl ?_
    exact y_retI rfl (by decide) rfl rfl
  refine dY_ite (fun c10 => ?_) (fun c11 => ?_)
  · skip
    refine y_tabI (q := 74) 3 rfl c10 (by decide) (by decide) rfl rfl ?_
    refine y_iconst (x := 2) (q := 75) rfl (by decide) rfl ?_
    refine y_iload_n (q := 76) rfl rfl rfl ?_
    refine y_iconst (x := 5) (q := 77) rfl (by decide) rfl ?_
    refine y_iadd (q := 78) rfl rfl ?_
    refine y_imul (q := 79) rfl rfl ?_
    exact y_retI rfl (by decide) rfl rfl
  refine dY_ite (fun c12 => ?_) (fun c13 => ?_)
  · skip
    refine y_tabI (q := 72) 4 rfl c12 (by decide) (by decide) rfl rfl ?_
    refine y_iconst (x := 0) (q := 73) rfl (by decide) rfl ?_
    exact y_retI rfl (by decide) rfl rfl
  refine dY_ite (fun c14 => ?_) (fun c15 => ?_)
  · skip
    refine y_tabI (q := 80) 5 rfl c14 (by decide) (by decide) rfl rfl ?_
    refine y_aload_n (q := 81) rfl rfl rfl ?_
    refine y_getR (b := (a0 + 2)) (q := 84) rfl rfl (by decide) (shS ha0) rfl rfl ?_
    refine y_iload_n (q := 85) rfl rfl rfl ?_
    refine y_guard (fun c16 => ?_)
    refine y_iald (n := 8) (N := 8) (X := v1.toInt) (K := v1.toInt.toNat) (q := 86) hbC rfl (shS2 ha0) rfl rfl c16 rfl rfl ?_
    exact y_retI rfl (by decide) rfl rfl
  refine y_tabD (q := 87) rfl (by omega) rfl ?_
  refine y_iload_n (q := 88) rfl rfl rfl ?_
  exact y_retI rfl (by decide) rfl rfl
def l_X3_holdFeast_14 (a0 : Nat) (v1 : Int32) (k : dH → Option (dH)) : Nat → Int32 → dH → Option (dH)
  | 0, _, _ => none
  | n + 1, v2, h => if v2.toInt < (h a0 2).toInt then (if 0 ≤ v1.toInt ∧ v1.toInt < 8 then (if (h (a0 + 3) (v1.toInt.toNat)).toInt = (-1) then (l_X3_holdFeast_14 a0 v1 k n (v2 + 1) h) else (if 0 ≤ v1.toInt ∧ v1.toInt < 8 then (if 0 ≤ v2.toInt ∧ v2.toInt < 8 then (if (h (a0 + 3) (v1.toInt.toNat)).toInt = (h (a0 + 3) (v2.toInt.toNat)).toInt then (oI (f_X3_meets a0 v1 v2 h) (fun r12 g13 => oI (f_X3_meets a0 v2 v1 g13) (fun r14 g15 => if 0 ≤ v1.toInt ∧ v1.toInt < 8 then (if 0 ≤ v2.toInt ∧ v2.toInt < 8 then (oV (f_X3_tie a0 v1 v2 (dmin 99 ((g15 (a0 + 5 + v1.toInt.toNat) (v2.toInt.toNat)) + (r12 + r14))) g15) (fun g18 => l_X3_holdFeast_14 a0 v1 k n (v2 + 1) g18)) else none) else none))) else (l_X3_holdFeast_14 a0 v1 k n (v2 + 1) h)) else none) else none)) else none) else (k  h)
theorem lz_X3_holdFeast_14 {d : Nat} (hd : 3 ≤ d) (a0 : Nat) (ha0 : zS a0) (v1 : Int32) (k : dH → Option (dH)) (hk : ∀ (w2 : Int32) (z3 : Option Value) (h : dH), dY shC d mj41 dV (k h) 91 [some (.ref a0), some (.int v1), some (.int w2), z3] [] h) : ∀ (n : Nat) (v2 : Int32) (h : dH) (z3 : Option Value), dY shC d mj41 dV (l_X3_holdFeast_14 a0 v1 k n v2 h) 14 [some (.ref a0), some (.int v1), some (.int v2), z3] [] h
  | 0, _, _, _ => dY_none
  | n + 1, v2, h, z3 => by
    rw [l_X3_holdFeast_14]
    refine y_iload_n (q := 15) rfl rfl rfl ?_
    refine y_aload_n (q := 16) rfl rfl rfl ?_
    refine y_getI (q := 19) rfl rfl (by decide) (shS ha0) rfl rfl ?_
    refine y_ge (q := 91) (q' := 22) rfl rfl rfl rfl rfl (fun c3 => ?_) (fun c4 => ?_)
    · skip
      refine y_aload_n (q := 23) rfl rfl rfl ?_
      refine y_getR (b := (a0 + 3)) (q := 26) rfl rfl (by decide) (shS ha0) rfl rfl ?_
      refine y_iload_n (q := 27) rfl rfl rfl ?_
      refine y_guard (fun c5 => ?_)
      refine y_iald (n := 8) (N := 8) (X := v1.toInt) (K := v1.toInt.toNat) (q := 28) hbC rfl (shS3 ha0) rfl rfl c5 rfl rfl ?_
      refine y_iconst (x := (-1)) (q := 29) rfl (by decide) rfl ?_
      refine y_eq (q := 85) (q' := 32) rfl rfl (by decide) rfl rfl (fun c6 => ?_) (fun c7 => ?_)
      · skip
        refine y_iinc (z := (v2 + 1)) (lo' := [some (.ref a0), some (.int v1), some (.int (v2 + 1)), z3]) (q := 88) rfl rfl (Nat.le_of_ble_eq_true rfl) (by rw [oi_1]) rfl rfl ?_
        refine y_goto (q := 14) rfl rfl ?_
        exact lz_X3_holdFeast_14 hd a0 ha0 v1 k hk n (v2 + 1) h (z3)
      · skip
        refine y_aload_n (q := 33) rfl rfl rfl ?_
        refine y_getR (b := (a0 + 3)) (q := 36) rfl rfl (by decide) (shS ha0) rfl rfl ?_
        refine y_iload_n (q := 37) rfl rfl rfl ?_
        refine y_guard (fun c8 => ?_)
        refine y_iald (n := 8) (N := 8) (X := v1.toInt) (K := v1.toInt.toNat) (q := 38) hbC rfl (shS3 ha0) rfl rfl c8 rfl rfl ?_
        refine y_aload_n (q := 39) rfl rfl rfl ?_
        refine y_getR (b := (a0 + 3)) (q := 42) rfl rfl (by decide) (shS ha0) rfl rfl ?_
        refine y_iload_n (q := 43) rfl rfl rfl ?_
        refine y_guard (fun c9 => ?_)
        refine y_iald (n := 8) (N := 8) (X := v2.toInt) (K := v2.toInt.toNat) (q := 44) hbC rfl (shS3 ha0) rfl rfl c9 rfl rfl ?_
        refine y_eq (q := 50) (q' := 47) rfl rfl rfl rfl rfl (fun c10 => ?_) (fun c11 => ?_)
        · skip
          refine y_aload_n (q := 51) rfl rfl rfl ?_
          refine y_iload_n (q := 52) rfl rfl rfl ?_
          refine y_iload_n (q := 53) rfl rfl rfl ?_
          refine y_callI (I := .invokevirtual 72) (idx := 72) (KD := 1) (J := 47) (mj := mj37) (as := [.ref a0, .int v1, .int v2]) (r := []) (q := 56) rfl (fun _ _ _ _ _ _ => rfl) rfl (by decide) rfl rfl rfl rfl rfl (Nat.le_of_ble_eq_true rfl) (d_recv (shS ha0) (by decide) (by decide)) rfl (m_X3_meets (Nat.le_trans (by decide) hd) a0 ha0 v1 v2 h) (fun r12 g13 => ?_)
          refine y_aload_n (q := 57) rfl rfl rfl ?_
          refine y_iload_n (q := 58) rfl rfl rfl ?_
          refine y_iload_n (q := 59) rfl rfl rfl ?_
          refine y_callI (I := .invokevirtual 72) (idx := 72) (KD := 1) (J := 47) (mj := mj37) (as := [.ref a0, .int v2, .int v1]) (r := [.int r12]) (q := 62) rfl (fun _ _ _ _ _ _ => rfl) rfl (by decide) rfl rfl rfl rfl rfl (Nat.le_of_ble_eq_true rfl) (d_recv (shS ha0) (by decide) (by decide)) rfl (m_X3_meets (Nat.le_trans (by decide) hd) a0 ha0 v2 v1 g13) (fun r14 g15 => ?_)
          refine y_iadd (q := 63) rfl rfl ?_
          refine y_istore_n (lo' := [some (.ref a0), some (.int v1), some (.int v2), some (.int (r12 + r14))]) (q := 64) rfl (Nat.le_of_ble_eq_true rfl) rfl rfl ?_
          refine y_aload_n (q := 65) rfl rfl rfl ?_
          refine y_iload_n (q := 66) rfl rfl rfl ?_
          refine y_iload_n (q := 67) rfl rfl rfl ?_
          refine y_bipush (x := 99) (q := 69) rfl (by decide) rfl ?_
          refine y_aload_n (q := 70) rfl rfl rfl ?_
          refine y_getR (b := (a0 + 4)) (q := 73) rfl rfl (by decide) (shS ha0) rfl rfl ?_
          refine y_iload_n (q := 74) rfl rfl rfl ?_
          refine y_guard (fun c16 => ?_)
          refine y_aald (b := (a0 + 5 + v1.toInt.toNat)) (K := v1.toInt.toNat) (X := v1.toInt) (q := 75) hbC rfl (shS4 ha0) (by decide) rfl c16.1 rfl (shS4k _ (by omega : v1.toInt.toNat < 8)) rfl ?_
          refine y_iload_n (q := 76) rfl rfl rfl ?_
          refine y_guard (fun c17 => ?_)
          refine y_iald (n := 8) (N := 8) (X := v2.toInt) (K := v2.toInt.toNat) (q := 77) hbC rfl (shSr ha0 (by omega : v1.toInt.toNat < 8)) rfl rfl c17 rfl rfl ?_
          refine y_iload_n (q := 78) rfl rfl rfl ?_
          refine y_iadd (q := 79) rfl rfl ?_
          refine y_min (q := 82) rfl rfl (Nat.le_of_ble_eq_true rfl) rfl ?_
          refine y_callV (I := .invokevirtual 79) (idx := 79) (KD := 1) (J := 40) (mj := mj30) (as := [.ref a0, .int v1, .int v2, .int (dmin 99 ((g15 (a0 + 5 + v1.toInt.toNat) (v2.toInt.toNat)) + (r12 + r14)))]) (r := []) (q := 85) rfl (fun _ _ _ _ _ _ => rfl) rfl (by decide) rfl rfl rfl rfl rfl (Nat.le_of_ble_eq_true rfl) (d_recv (shS ha0) (by decide) (by decide)) rfl (m_X3_tie (Nat.le_trans (by decide) hd) a0 ha0 v1 v2 (dmin 99 ((g15 (a0 + 5 + v1.toInt.toNat) (v2.toInt.toNat)) + (r12 + r14))) g15) (fun g18 => ?_)
          refine y_iinc (z := (v2 + 1)) (lo' := [some (.ref a0), some (.int v1), some (.int (v2 + 1)), some (.int (r12 + r14))]) (q := 88) rfl rfl (Nat.le_of_ble_eq_true rfl) (by rw [oi_1]) rfl rfl ?_
          refine y_goto (q := 14) rfl rfl ?_
          exact lz_X3_holdFeast_14 hd a0 ha0 v1 k hk n (v2 + 1) g18 (some (.int (r12 + r14)))
        · skip
          refine y_goto (q := 85) rfl rfl ?_
          refine y_iinc (z := (v2 + 1)) (lo' := [some (.ref a0), some (.int v1), some (.int (v2 + 1)), z3]) (q := 88) rfl rfl (Nat.le_of_ble_eq_true rfl) (by rw [oi_1]) rfl rfl ?_
          refine y_goto (q := 14) rfl rfl ?_
          exact lz_X3_holdFeast_14 hd a0 ha0 v1 k hk n (v2 + 1) h (z3)
    · skip
      exact hk  v2 (z3) h
def l_X3_holdFeast_2 (a0 : Nat) (k : dH → Option (dH)) : Nat → Int32 → dH → Option (dH)
  | 0, _, _ => none
  | n + 1, v1, h => if v1.toInt < (h a0 2).toInt then (l_X3_holdFeast_14 a0 v1  (fun g21 => l_X3_holdFeast_2 a0 k n (v1 + 1) g21) fuel0 (v1 + 1) h) else (k  h)
theorem lz_X3_holdFeast_2 {d : Nat} (hd : 3 ≤ d) (a0 : Nat) (ha0 : zS a0) (k : dH → Option (dH)) (hk : ∀ (w1 : Int32) (z2 : Option Value) (z3 : Option Value) (h : dH), dY shC d mj41 dV (k h) 97 [some (.ref a0), some (.int w1), z2, z3] [] h) : ∀ (n : Nat) (v1 : Int32) (h : dH) (z2 : Option Value) (z3 : Option Value), dY shC d mj41 dV (l_X3_holdFeast_2 a0 k n v1 h) 2 [some (.ref a0), some (.int v1), z2, z3] [] h
  | 0, _, _, _, _ => dY_none
  | n + 1, v1, h, z2, z3 => by
    rw [l_X3_holdFeast_2]
    refine y_iload_n (q := 3) rfl rfl rfl ?_
    refine y_aload_n (q := 4) rfl rfl rfl ?_
    refine y_getI (q := 7) rfl rfl (by decide) (shS ha0) rfl rfl ?_
    refine y_ge (q := 97) (q' := 10) rfl rfl rfl rfl rfl (fun c1 => ?_) (fun c2 => ?_)
    · skip
      refine y_iload_n (q := 11) rfl rfl rfl ?_
      refine y_iconst (x := 1) (q := 12) rfl (by decide) rfl ?_
      refine y_iadd (q := 13) rfl rfl ?_
      refine y_istore_n (lo' := [some (.ref a0), some (.int v1), some (.int (v1 + 1)), z3]) (q := 14) rfl (Nat.le_of_ble_eq_true rfl) rfl rfl ?_
      refine lz_X3_holdFeast_14 hd a0 ha0 v1  _ (fun z19 z20 g21 => ?_) fuel0 (v1 + 1) h (z3)
      refine y_iinc (z := (v1 + 1)) (lo' := [some (.ref a0), some (.int (v1 + 1)), some (.int z19), z20]) (q := 94) rfl rfl (Nat.le_of_ble_eq_true rfl) (by rw [oi_1]) rfl rfl ?_
      refine y_goto (q := 2) rfl rfl ?_
      exact lz_X3_holdFeast_2 hd a0 ha0 k hk n (v1 + 1) g21 (some (.int z19)) (z20)
    · skip
      exact hk  v1 (z2) (z3) h
def f_X3_holdFeast (a0 : Nat) (h : dH) : Option (dH) := l_X3_holdFeast_2 a0  (fun g25 => some g25) fuel0 0 h
theorem m_X3_holdFeast {d : Nat} (hd : 4 ≤ d) (a0 : Nat) (ha0 : zS a0) (h : dH) : dX shC d 41 [.ref a0] dV (f_X3_holdFeast a0 h) h := by
  obtain ⟨e, rfl⟩ : ∃ e, d = e + 1 := ⟨d - 1, by omega⟩
  have hd : 3 ≤ e := by omega
  refine dX_of (mj := mj41) (lo := [some (.ref a0), none, none, none]) rfl (Nat.le_of_ble_eq_true rfl) rfl ?_
  unfold f_X3_holdFeast
  refine y_iconst (x := 0) (q := 1) rfl (by decide) rfl ?_
  refine y_istore_n (lo' := [some (.ref a0), some (.int 0), none, none]) (q := 2) rfl (Nat.le_of_ble_eq_true rfl) rfl rfl ?_
  refine lz_X3_holdFeast_2 hd a0 ha0  _ (fun z22 z23 z24 g25 => ?_) fuel0 0 h (none) (none)
  exact y_retV rfl rfl rfl
def l_X3_endYear_14 (a0 : Nat) (v1 : Int32) (k : dH → Option (dH)) : Nat → Int32 → dH → Option (dH)
  | 0, _, _ => none
  | n + 1, v2, h => if v2.toInt < (h a0 2).toInt then (oI (f_X3_forgets a0 v1 v2 h) (fun r5 g6 => oI (f_X3_forgets a0 v2 v1 g6) (fun r7 g8 => if 0 ≤ v1.toInt ∧ v1.toInt < 8 then (if 0 ≤ v2.toInt ∧ v2.toInt < 8 then (oV (f_X3_tie a0 v1 v2 (dmax 0 ((g8 (a0 + 5 + v1.toInt.toNat) (v2.toInt.toNat)) - (r5 + r7))) g8) (fun g11 => l_X3_endYear_14 a0 v1 k n (v2 + 1) g11)) else none) else none))) else (k  h)
theorem lz_X3_endYear_14 {d : Nat} (hd : 3 ≤ d) (a0 : Nat) (ha0 : zS a0) (v1 : Int32) (k : dH → Option (dH)) (hk : ∀ (w2 : Int32) (z3 : Option Value) (h : dH), dY shC d mj42 dV (k h) 62 [some (.ref a0), some (.int v1), some (.int w2), z3] [] h) : ∀ (n : Nat) (v2 : Int32) (h : dH) (z3 : Option Value), dY shC d mj42 dV (l_X3_endYear_14 a0 v1 k n v2 h) 14 [some (.ref a0), some (.int v1), some (.int v2), z3] [] h
  | 0, _, _, _ => dY_none
  | n + 1, v2, h, z3 => by
    rw [l_X3_endYear_14]
    refine y_iload_n (q := 15) rfl rfl rfl ?_
    refine y_aload_n (q := 16) rfl rfl rfl ?_
    refine y_getI (q := 19) rfl rfl (by decide) (shS ha0) rfl rfl ?_
    refine y_ge (q := 62) (q' := 22) rfl rfl rfl rfl rfl (fun c3 => ?_) (fun c4 => ?_)
    · skip
      refine y_aload_n (q := 23) rfl rfl rfl ?_
      refine y_iload_n (q := 24) rfl rfl rfl ?_
      refine y_iload_n (q := 25) rfl rfl rfl ?_
      refine y_callI (I := .invokevirtual 83) (idx := 83) (KD := 1) (J := 48) (mj := mj38) (as := [.ref a0, .int v1, .int v2]) (r := []) (q := 28) rfl (fun _ _ _ _ _ _ => rfl) rfl (by decide) rfl rfl rfl rfl rfl (Nat.le_of_ble_eq_true rfl) (d_recv (shS ha0) (by decide) (by decide)) rfl (m_X3_forgets (Nat.le_trans (by decide) hd) a0 ha0 v1 v2 h) (fun r5 g6 => ?_)
      refine y_aload_n (q := 29) rfl rfl rfl ?_
      refine y_iload_n (q := 30) rfl rfl rfl ?_
      refine y_iload_n (q := 31) rfl rfl rfl ?_
      refine y_callI (I := .invokevirtual 83) (idx := 83) (KD := 1) (J := 48) (mj := mj38) (as := [.ref a0, .int v2, .int v1]) (r := [.int r5]) (q := 34) rfl (fun _ _ _ _ _ _ => rfl) rfl (by decide) rfl rfl rfl rfl rfl (Nat.le_of_ble_eq_true rfl) (d_recv (shS ha0) (by decide) (by decide)) rfl (m_X3_forgets (Nat.le_trans (by decide) hd) a0 ha0 v2 v1 g6) (fun r7 g8 => ?_)
      refine y_iadd (q := 35) rfl rfl ?_
      refine y_istore_n (lo' := [some (.ref a0), some (.int v1), some (.int v2), some (.int (r5 + r7))]) (q := 36) rfl (Nat.le_of_ble_eq_true rfl) rfl rfl ?_
      refine y_aload_n (q := 37) rfl rfl rfl ?_
      refine y_iload_n (q := 38) rfl rfl rfl ?_
      refine y_iload_n (q := 39) rfl rfl rfl ?_
      refine y_iconst (x := 0) (q := 40) rfl (by decide) rfl ?_
      refine y_aload_n (q := 41) rfl rfl rfl ?_
      refine y_getR (b := (a0 + 4)) (q := 44) rfl rfl (by decide) (shS ha0) rfl rfl ?_
      refine y_iload_n (q := 45) rfl rfl rfl ?_
      refine y_guard (fun c9 => ?_)
      refine y_aald (b := (a0 + 5 + v1.toInt.toNat)) (K := v1.toInt.toNat) (X := v1.toInt) (q := 46) hbC rfl (shS4 ha0) (by decide) rfl c9.1 rfl (shS4k _ (by omega : v1.toInt.toNat < 8)) rfl ?_
      refine y_iload_n (q := 47) rfl rfl rfl ?_
      refine y_guard (fun c10 => ?_)
      refine y_iald (n := 8) (N := 8) (X := v2.toInt) (K := v2.toInt.toNat) (q := 48) hbC rfl (shSr ha0 (by omega : v1.toInt.toNat < 8)) rfl rfl c10 rfl rfl ?_
      refine y_iload_n (q := 49) rfl rfl rfl ?_
      refine y_isub (q := 50) rfl rfl ?_
      refine y_max (q := 53) rfl rfl (Nat.le_of_ble_eq_true rfl) rfl ?_
      refine y_callV (I := .invokevirtual 79) (idx := 79) (KD := 1) (J := 40) (mj := mj30) (as := [.ref a0, .int v1, .int v2, .int (dmax 0 ((g8 (a0 + 5 + v1.toInt.toNat) (v2.toInt.toNat)) - (r5 + r7)))]) (r := []) (q := 56) rfl (fun _ _ _ _ _ _ => rfl) rfl (by decide) rfl rfl rfl rfl rfl (Nat.le_of_ble_eq_true rfl) (d_recv (shS ha0) (by decide) (by decide)) rfl (m_X3_tie (Nat.le_trans (by decide) hd) a0 ha0 v1 v2 (dmax 0 ((g8 (a0 + 5 + v1.toInt.toNat) (v2.toInt.toNat)) - (r5 + r7))) g8) (fun g11 => ?_)
      refine y_iinc (z := (v2 + 1)) (lo' := [some (.ref a0), some (.int v1), some (.int (v2 + 1)), some (.int (r5 + r7))]) (q := 59) rfl rfl (Nat.le_of_ble_eq_true rfl) (by rw [oi_1]) rfl rfl ?_
      refine y_goto (q := 14) rfl rfl ?_
      exact lz_X3_endYear_14 hd a0 ha0 v1 k hk n (v2 + 1) g11 (some (.int (r5 + r7)))
    · skip
      exact hk  v2 (z3) h
def l_X3_endYear_2 (a0 : Nat) (k : dH → Option (dH)) : Nat → Int32 → dH → Option (dH)
  | 0, _, _ => none
  | n + 1, v1, h => if v1.toInt < (h a0 2).toInt then (l_X3_endYear_14 a0 v1  (fun g14 => l_X3_endYear_2 a0 k n (v1 + 1) g14) fuel0 (v1 + 1) h) else (k  h)
theorem lz_X3_endYear_2 {d : Nat} (hd : 3 ≤ d) (a0 : Nat) (ha0 : zS a0) (k : dH → Option (dH)) (hk : ∀ (w1 : Int32) (z2 : Option Value) (z3 : Option Value) (h : dH), dY shC d mj42 dV (k h) 68 [some (.ref a0), some (.int w1), z2, z3] [] h) : ∀ (n : Nat) (v1 : Int32) (h : dH) (z2 : Option Value) (z3 : Option Value), dY shC d mj42 dV (l_X3_endYear_2 a0 k n v1 h) 2 [some (.ref a0), some (.int v1), z2, z3] [] h
  | 0, _, _, _, _ => dY_none
  | n + 1, v1, h, z2, z3 => by
    rw [l_X3_endYear_2]
    refine y_iload_n (q := 3) rfl rfl rfl ?_
    refine y_aload_n (q := 4) rfl rfl rfl ?_
    refine y_getI (q := 7) rfl rfl (by decide) (shS ha0) rfl rfl ?_
    refine y_ge (q := 68) (q' := 10) rfl rfl rfl rfl rfl (fun c1 => ?_) (fun c2 => ?_)
    · skip
      refine y_iload_n (q := 11) rfl rfl rfl ?_
      refine y_iconst (x := 1) (q := 12) rfl (by decide) rfl ?_
      refine y_iadd (q := 13) rfl rfl ?_
      refine y_istore_n (lo' := [some (.ref a0), some (.int v1), some (.int (v1 + 1)), z3]) (q := 14) rfl (Nat.le_of_ble_eq_true rfl) rfl rfl ?_
      refine lz_X3_endYear_14 hd a0 ha0 v1  _ (fun z12 z13 g14 => ?_) fuel0 (v1 + 1) h (z3)
      refine y_iinc (z := (v1 + 1)) (lo' := [some (.ref a0), some (.int (v1 + 1)), some (.int z12), z13]) (q := 65) rfl rfl (Nat.le_of_ble_eq_true rfl) (by rw [oi_1]) rfl rfl ?_
      refine y_goto (q := 2) rfl rfl ?_
      exact lz_X3_endYear_2 hd a0 ha0 k hk n (v1 + 1) g14 (some (.int z12)) (z13)
    · skip
      exact hk  v1 (z2) (z3) h
def f_X3_endYear (a0 : Nat) (h : dH) : Option (dH) := l_X3_endYear_2 a0  (fun g18 => oH (dU g18 a0 0 ((g18 a0 0) + 1)) (fun g19 => some g19)) fuel0 0 h
theorem m_X3_endYear {d : Nat} (hd : 4 ≤ d) (a0 : Nat) (ha0 : zS a0) (h : dH) : dX shC d 42 [.ref a0] dV (f_X3_endYear a0 h) h := by
  obtain ⟨e, rfl⟩ : ∃ e, d = e + 1 := ⟨d - 1, by omega⟩
  have hd : 3 ≤ e := by omega
  refine dX_of (mj := mj42) (lo := [some (.ref a0), none, none, none]) rfl (Nat.le_of_ble_eq_true rfl) rfl ?_
  unfold f_X3_endYear
  refine y_iconst (x := 0) (q := 1) rfl (by decide) rfl ?_
  refine y_istore_n (lo' := [some (.ref a0), some (.int 0), none, none]) (q := 2) rfl (Nat.le_of_ble_eq_true rfl) rfl rfl ?_
  refine lz_X3_endYear_2 hd a0 ha0  _ (fun z15 z16 z17 g18 => ?_) fuel0 0 h (none) (none)
  refine y_aload_n (q := 69) rfl rfl rfl ?_
  refine y_dup (q := 70) rfl rfl ?_
  refine y_getI (q := 73) rfl rfl (by decide) (shS ha0) rfl rfl ?_
  refine y_iconst (x := 1) (q := 74) rfl (by decide) rfl ?_
  refine y_iadd (q := 75) rfl rfl ?_
  refine y_putI (q := 78) rfl rfl (by decide) (shS ha0) rfl rfl rfl rfl (fun g19 => ?_)
  exact y_retV rfl rfl rfl
def l_X3_pass_2 (a0 : Nat) (v1 : Int32) (k : dH → Option (Int32 × dH)) : Nat → Int32 → dH → Option (Int32 × dH)
  | 0, _, _ => none
  | n + 1, v2, h => if v2.toInt < v1.toInt then (oV (f_X3_holdFeast a0 h) (fun g3 => oV (f_X3_endYear a0 g3) (fun g4 => l_X3_pass_2 a0 v1 k n (v2 + 1) g4))) else (k  h)
theorem lz_X3_pass_2 {d : Nat} (hd : 4 ≤ d) (a0 : Nat) (ha0 : zS a0) (v1 : Int32) (k : dH → Option (Int32 × dH)) (hk : ∀ (w2 : Int32) (h : dH), dY shC d mj43 dI (k h) 21 [some (.ref a0), some (.int v1), some (.int w2)] [] h) : ∀ (n : Nat) (v2 : Int32) (h : dH), dY shC d mj43 dI (l_X3_pass_2 a0 v1 k n v2 h) 2 [some (.ref a0), some (.int v1), some (.int v2)] [] h
  | 0, _, _ => dY_none
  | n + 1, v2, h => by
    rw [l_X3_pass_2]
    refine y_iload_n (q := 3) rfl rfl rfl ?_
    refine y_iload_n (q := 4) rfl rfl rfl ?_
    refine y_ge (q := 21) (q' := 7) rfl rfl rfl rfl rfl (fun c1 => ?_) (fun c2 => ?_)
    · skip
      refine y_aload_n (q := 8) rfl rfl rfl ?_
      refine y_callV (I := .invokevirtual 89) (idx := 89) (KD := 1) (J := 51) (mj := mj41) (as := [.ref a0]) (r := []) (q := 11) rfl (fun _ _ _ _ _ _ => rfl) rfl (by decide) rfl rfl rfl rfl rfl (Nat.le_of_ble_eq_true rfl) (d_recv (shS ha0) (by decide) (by decide)) rfl (m_X3_holdFeast (Nat.le_trans (by decide) hd) a0 ha0 h) (fun g3 => ?_)
      refine y_aload_n (q := 12) rfl rfl rfl ?_
      refine y_callV (I := .invokevirtual 92) (idx := 92) (KD := 1) (J := 52) (mj := mj42) (as := [.ref a0]) (r := []) (q := 15) rfl (fun _ _ _ _ _ _ => rfl) rfl (by decide) rfl rfl rfl rfl rfl (Nat.le_of_ble_eq_true rfl) (d_recv (shS ha0) (by decide) (by decide)) rfl (m_X3_endYear (Nat.le_trans (by decide) hd) a0 ha0 g3) (fun g4 => ?_)
      refine y_iinc (z := (v2 + 1)) (lo' := [some (.ref a0), some (.int v1), some (.int (v2 + 1))]) (q := 18) rfl rfl (Nat.le_of_ble_eq_true rfl) (by rw [oi_1]) rfl rfl ?_
      refine y_goto (q := 2) rfl rfl ?_
      exact lz_X3_pass_2 hd a0 ha0 v1 k hk n (v2 + 1) g4 
    · skip
      exact hk  v2 h
def f_X3_pass (a0 : Nat) (v1 : Int32) (h : dH) : Option (Int32 × dH) := l_X3_pass_2 a0 v1  (fun g6 => oP (f_X3_friends a0 g6) (fun r7 => some (r7, g6))) fuel0 0 h
theorem m_X3_pass {d : Nat} (hd : 5 ≤ d) (a0 : Nat) (ha0 : zS a0) (v1 : Int32) (h : dH) : dX shC d 43 [.ref a0, .int v1] dI (f_X3_pass a0 v1 h) h := by
  obtain ⟨e, rfl⟩ : ∃ e, d = e + 1 := ⟨d - 1, by omega⟩
  have hd : 4 ≤ e := by omega
  refine dX_of (mj := mj43) (lo := [some (.ref a0), some (.int v1), none]) rfl (Nat.le_of_ble_eq_true rfl) rfl ?_
  unfold f_X3_pass
  refine y_iconst (x := 0) (q := 1) rfl (by decide) rfl ?_
  refine y_istore_n (lo' := [some (.ref a0), some (.int v1), some (.int 0)]) (q := 2) rfl (Nat.le_of_ble_eq_true rfl) rfl rfl ?_
  refine lz_X3_pass_2 hd a0 ha0 v1  _ (fun z5 g6 => ?_) fuel0 0 h 
  refine y_aload_n (q := 22) rfl rfl rfl ?_
  refine y_callP (I := .invokevirtual 95) (idx := 95) (KD := 1) (J := 43) (mj := mj33) (as := [.ref a0]) (r := []) (q := 25) rfl (fun _ _ _ _ _ _ => rfl) rfl (by decide) rfl rfl rfl rfl rfl (Nat.le_of_ble_eq_true rfl) (d_recv (shS ha0) (by decide) (by decide)) rfl (m_X3_friends (Nat.le_trans (by decide) hd) a0 ha0 g6) (fun r7 => ?_)
  exact y_retI rfl (by decide) rfl rfl
def l_X3_dinAt_4 (a0 : Nat) (v1 : Int32) (k : Int32 → dH → Option (Int32 × dH)) : Nat → Int32 → Int32 → dH → Option (Int32 × dH)
  | 0, _, _, _ => none
  | n + 1, v2, v3, h => if v3.toInt < (h a0 2).toInt then (if 0 ≤ v3.toInt ∧ v3.toInt < 8 then (if (h (a0 + 3) (v3.toInt.toNat)).toInt = v1.toInt then (oI (f_X3_sounds a0 v3 h) (fun r6 g7 => l_X3_dinAt_4 a0 v1 k n (v2 + r6) (v3 + 1) g7)) else (l_X3_dinAt_4 a0 v1 k n v2 (v3 + 1) h)) else none) else (k v2 h)
theorem lz_X3_dinAt_4 {d : Nat} (hd : 3 ≤ d) (a0 : Nat) (ha0 : zS a0) (v1 : Int32) (k : Int32 → dH → Option (Int32 × dH)) (hk : ∀ (v2 : Int32) (w3 : Int32) (h : dH), dY shC d mj45 dI (k v2 h) 36 [some (.ref a0), some (.int v1), some (.int v2), some (.int w3)] [] h) : ∀ (n : Nat) (v2 : Int32) (v3 : Int32) (h : dH), dY shC d mj45 dI (l_X3_dinAt_4 a0 v1 k n v2 v3 h) 4 [some (.ref a0), some (.int v1), some (.int v2), some (.int v3)] [] h
  | 0, _, _, _ => dY_none
  | n + 1, v2, v3, h => by
    rw [l_X3_dinAt_4]
    refine y_iload_n (q := 5) rfl rfl rfl ?_
    refine y_aload_n (q := 6) rfl rfl rfl ?_
    refine y_getI (q := 9) rfl rfl (by decide) (shS ha0) rfl rfl ?_
    refine y_ge (q := 36) (q' := 12) rfl rfl rfl rfl rfl (fun c1 => ?_) (fun c2 => ?_)
    · skip
      refine y_aload_n (q := 13) rfl rfl rfl ?_
      refine y_getR (b := (a0 + 3)) (q := 16) rfl rfl (by decide) (shS ha0) rfl rfl ?_
      refine y_iload_n (q := 17) rfl rfl rfl ?_
      refine y_guard (fun c3 => ?_)
      refine y_iald (n := 8) (N := 8) (X := v3.toInt) (K := v3.toInt.toNat) (q := 18) hbC rfl (shS3 ha0) rfl rfl c3 rfl rfl ?_
      refine y_iload_n (q := 19) rfl rfl rfl ?_
      refine y_ne (q := 30) (q' := 22) rfl rfl rfl rfl rfl (fun c4 => ?_) (fun c5 => ?_)
      · skip
        refine y_iload_n (q := 23) rfl rfl rfl ?_
        refine y_aload_n (q := 24) rfl rfl rfl ?_
        refine y_iload_n (q := 25) rfl rfl rfl ?_
        refine y_callI (I := .invokevirtual 102) (idx := 102) (KD := 1) (J := 49) (mj := mj39) (as := [.ref a0, .int v3]) (r := [.int v2]) (q := 28) rfl (fun _ _ _ _ _ _ => rfl) rfl (by decide) rfl rfl rfl rfl rfl (Nat.le_of_ble_eq_true rfl) (d_recv (shS ha0) (by decide) (by decide)) rfl (m_X3_sounds (Nat.le_trans (by decide) hd) a0 ha0 v3 h) (fun r6 g7 => ?_)
        refine y_iadd (q := 29) rfl rfl ?_
        refine y_istore_n (lo' := [some (.ref a0), some (.int v1), some (.int (v2 + r6)), some (.int v3)]) (q := 30) rfl (Nat.le_of_ble_eq_true rfl) rfl rfl ?_
        refine y_iinc (z := (v3 + 1)) (lo' := [some (.ref a0), some (.int v1), some (.int (v2 + r6)), some (.int (v3 + 1))]) (q := 33) rfl rfl (Nat.le_of_ble_eq_true rfl) (by rw [oi_1]) rfl rfl ?_
        refine y_goto (q := 4) rfl rfl ?_
        exact lz_X3_dinAt_4 hd a0 ha0 v1 k hk n (v2 + r6) (v3 + 1) g7 
      · skip
        refine y_iinc (z := (v3 + 1)) (lo' := [some (.ref a0), some (.int v1), some (.int v2), some (.int (v3 + 1))]) (q := 33) rfl rfl (Nat.le_of_ble_eq_true rfl) (by rw [oi_1]) rfl rfl ?_
        refine y_goto (q := 4) rfl rfl ?_
        exact lz_X3_dinAt_4 hd a0 ha0 v1 k hk n v2 (v3 + 1) h 
    · skip
      exact hk v2 v3 h
def f_X3_dinAt (a0 : Nat) (v1 : Int32) (h : dH) : Option (Int32 × dH) := l_X3_dinAt_4 a0 v1  (fun v2_8 g10 => some (v2_8, g10)) fuel0 0 0 h
theorem m_X3_dinAt {d : Nat} (hd : 4 ≤ d) (a0 : Nat) (ha0 : zS a0) (v1 : Int32) (h : dH) : dX shC d 45 [.ref a0, .int v1] dI (f_X3_dinAt a0 v1 h) h := by
  obtain ⟨e, rfl⟩ : ∃ e, d = e + 1 := ⟨d - 1, by omega⟩
  have hd : 3 ≤ e := by omega
  refine dX_of (mj := mj45) (lo := [some (.ref a0), some (.int v1), none, none]) rfl (Nat.le_of_ble_eq_true rfl) rfl ?_
  unfold f_X3_dinAt
  refine y_iconst (x := 0) (q := 1) rfl (by decide) rfl ?_
  refine y_istore_n (lo' := [some (.ref a0), some (.int v1), some (.int 0), none]) (q := 2) rfl (Nat.le_of_ble_eq_true rfl) rfl rfl ?_
  refine y_iconst (x := 0) (q := 3) rfl (by decide) rfl ?_
  refine y_istore_n (lo' := [some (.ref a0), some (.int v1), some (.int 0), some (.int 0)]) (q := 4) rfl (Nat.le_of_ble_eq_true rfl) rfl rfl ?_
  refine lz_X3_dinAt_4 hd a0 ha0 v1  _ (fun v2_8 z9 g10 => ?_) fuel0 0 0 h 
  refine y_iload_n (q := 37) rfl rfl rfl ?_
  exact y_retI rfl (by decide) rfl rfl
def l_X3_quietTable_6 (a0 : Nat) (k : Int32 → dH → Option (Int32 × dH)) : Nat → Int32 → Int32 → Int32 → dH → Option (Int32 × dH)
  | 0, _, _, _, _ => none
  | n + 1, v1, v2, v3, h => if v3.toInt < 4 then (oP (f_X3_seatsAt a0 v3 h) (fun r3 => if r3.toInt = 0 then (l_X3_quietTable_6 a0 k n v1 v2 (v3 + 1) h) else (oI (f_X3_dinAt a0 v3 h) (fun r6 g7 => if v1.toInt = (-1) then (l_X3_quietTable_6 a0 k n v3 r6 (v3 + 1) g7) else (if r6.toInt < v2.toInt then (l_X3_quietTable_6 a0 k n v3 r6 (v3 + 1) g7) else (l_X3_quietTable_6 a0 k n v1 v2 (v3 + 1) g7)))))) else (k v1 h)
theorem lz_X3_quietTable_6 {d : Nat} (hd : 4 ≤ d) (a0 : Nat) (ha0 : zS a0) (k : Int32 → dH → Option (Int32 × dH)) (hk : ∀ (v1 : Int32) (w2 : Int32) (w3 : Int32) (z4 : Option Value) (h : dH), dY shC d mj44 dI (k v1 h) 51 [some (.ref a0), some (.int v1), some (.int w2), some (.int w3), z4] [] h) : ∀ (n : Nat) (v1 : Int32) (v2 : Int32) (v3 : Int32) (h : dH) (z4 : Option Value), dY shC d mj44 dI (l_X3_quietTable_6 a0 k n v1 v2 v3 h) 6 [some (.ref a0), some (.int v1), some (.int v2), some (.int v3), z4] [] h
  | 0, _, _, _, _, _ => dY_none
  | n + 1, v1, v2, v3, h, z4 => by
    rw [l_X3_quietTable_6]
    refine y_iload_n (q := 7) rfl rfl rfl ?_
    refine y_iconst (x := 4) (q := 8) rfl (by decide) rfl ?_
    refine y_ge (q := 51) (q' := 11) rfl rfl (by decide) rfl rfl (fun c1 => ?_) (fun c2 => ?_)
    · skip
      refine y_aload_n (q := 12) rfl rfl rfl ?_
      refine y_iload_n (q := 13) rfl rfl rfl ?_
      refine y_callP (I := .invokevirtual 55) (idx := 55) (KD := 1) (J := 45) (mj := mj35) (as := [.ref a0, .int v3]) (r := []) (q := 16) rfl (fun _ _ _ _ _ _ => rfl) rfl (by decide) rfl rfl rfl rfl rfl (Nat.le_of_ble_eq_true rfl) (d_recv (shS ha0) (by decide) (by decide)) rfl (m_X3_seatsAt (Nat.le_trans (by decide) hd) a0 ha0 v3 h) (fun r3 => ?_)
      refine y_ne0 (q := 22) (q' := 19) rfl rfl rfl rfl (fun c4 => ?_) (fun c5 => ?_)
      · skip
        refine y_goto (q := 45) rfl rfl ?_
        refine y_iinc (z := (v3 + 1)) (lo' := [some (.ref a0), some (.int v1), some (.int v2), some (.int (v3 + 1)), z4]) (q := 48) rfl rfl (Nat.le_of_ble_eq_true rfl) (by rw [oi_1]) rfl rfl ?_
        refine y_goto (q := 6) rfl rfl ?_
        exact lz_X3_quietTable_6 hd a0 ha0 k hk n v1 v2 (v3 + 1) h (z4)
      · skip
        refine y_aload_n (q := 23) rfl rfl rfl ?_
        refine y_iload_n (q := 24) rfl rfl rfl ?_
        refine y_callI (I := .invokevirtual 99) (idx := 99) (KD := 1) (J := 55) (mj := mj45) (as := [.ref a0, .int v3]) (r := []) (q := 27) rfl (fun _ _ _ _ _ _ => rfl) rfl (by decide) rfl rfl rfl rfl rfl (Nat.le_of_ble_eq_true rfl) (d_recv (shS ha0) (by decide) (by decide)) rfl (m_X3_dinAt (Nat.le_trans (by decide) hd) a0 ha0 v3 h) (fun r6 g7 => ?_)
        refine y_istore (lo' := [some (.ref a0), some (.int v1), some (.int v2), some (.int v3), some (.int r6)]) (q := 29) rfl (Nat.le_of_ble_eq_true rfl) rfl rfl ?_
        refine y_iload_n (q := 30) rfl rfl rfl ?_
        refine y_iconst (x := (-1)) (q := 31) rfl (by decide) rfl ?_
        refine y_eq (q := 40) (q' := 34) rfl rfl (by decide) rfl rfl (fun c8 => ?_) (fun c9 => ?_)
        · skip
          refine y_iload_n (q := 41) rfl rfl rfl ?_
          refine y_istore_n (lo' := [some (.ref a0), some (.int v3), some (.int v2), some (.int v3), some (.int r6)]) (q := 42) rfl (Nat.le_of_ble_eq_true rfl) rfl rfl ?_
          refine y_iload (q := 44) rfl rfl rfl ?_
          refine y_istore_n (lo' := [some (.ref a0), some (.int v3), some (.int r6), some (.int v3), some (.int r6)]) (q := 45) rfl (Nat.le_of_ble_eq_true rfl) rfl rfl ?_
          refine y_iinc (z := (v3 + 1)) (lo' := [some (.ref a0), some (.int v3), some (.int r6), some (.int (v3 + 1)), some (.int r6)]) (q := 48) rfl rfl (Nat.le_of_ble_eq_true rfl) (by rw [oi_1]) rfl rfl ?_
          refine y_goto (q := 6) rfl rfl ?_
          exact lz_X3_quietTable_6 hd a0 ha0 k hk n v3 r6 (v3 + 1) g7 (some (.int r6))
        · skip
          refine y_iload (q := 36) rfl rfl rfl ?_
          refine y_iload_n (q := 37) rfl rfl rfl ?_
          refine y_ge (q := 45) (q' := 40) rfl rfl rfl rfl rfl (fun c10 => ?_) (fun c11 => ?_)
          · skip
            refine y_iload_n (q := 41) rfl rfl rfl ?_
            refine y_istore_n (lo' := [some (.ref a0), some (.int v3), some (.int v2), some (.int v3), some (.int r6)]) (q := 42) rfl (Nat.le_of_ble_eq_true rfl) rfl rfl ?_
            refine y_iload (q := 44) rfl rfl rfl ?_
            refine y_istore_n (lo' := [some (.ref a0), some (.int v3), some (.int r6), some (.int v3), some (.int r6)]) (q := 45) rfl (Nat.le_of_ble_eq_true rfl) rfl rfl ?_
            refine y_iinc (z := (v3 + 1)) (lo' := [some (.ref a0), some (.int v3), some (.int r6), some (.int (v3 + 1)), some (.int r6)]) (q := 48) rfl rfl (Nat.le_of_ble_eq_true rfl) (by rw [oi_1]) rfl rfl ?_
            refine y_goto (q := 6) rfl rfl ?_
            exact lz_X3_quietTable_6 hd a0 ha0 k hk n v3 r6 (v3 + 1) g7 (some (.int r6))
          · skip
            refine y_iinc (z := (v3 + 1)) (lo' := [some (.ref a0), some (.int v1), some (.int v2), some (.int (v3 + 1)), some (.int r6)]) (q := 48) rfl rfl (Nat.le_of_ble_eq_true rfl) (by rw [oi_1]) rfl rfl ?_
            refine y_goto (q := 6) rfl rfl ?_
            exact lz_X3_quietTable_6 hd a0 ha0 k hk n v1 v2 (v3 + 1) g7 (some (.int r6))
    · skip
      exact hk v1 v2 v3 (z4) h
def f_X3_quietTable (a0 : Nat) (h : dH) : Option (Int32 × dH) := l_X3_quietTable_6 a0  (fun v1_12 g16 => some (v1_12, g16)) fuel0 (-1) 0 0 h
theorem m_X3_quietTable {d : Nat} (hd : 5 ≤ d) (a0 : Nat) (ha0 : zS a0) (h : dH) : dX shC d 44 [.ref a0] dI (f_X3_quietTable a0 h) h := by
  obtain ⟨e, rfl⟩ : ∃ e, d = e + 1 := ⟨d - 1, by omega⟩
  have hd : 4 ≤ e := by omega
  refine dX_of (mj := mj44) (lo := [some (.ref a0), none, none, none, none]) rfl (Nat.le_of_ble_eq_true rfl) rfl ?_
  unfold f_X3_quietTable
  refine y_iconst (x := (-1)) (q := 1) rfl (by decide) rfl ?_
  refine y_istore_n (lo' := [some (.ref a0), some (.int (-1)), none, none, none]) (q := 2) rfl (Nat.le_of_ble_eq_true rfl) rfl rfl ?_
  refine y_iconst (x := 0) (q := 3) rfl (by decide) rfl ?_
  refine y_istore_n (lo' := [some (.ref a0), some (.int (-1)), some (.int 0), none, none]) (q := 4) rfl (Nat.le_of_ble_eq_true rfl) rfl rfl ?_
  refine y_iconst (x := 0) (q := 5) rfl (by decide) rfl ?_
  refine y_istore_n (lo' := [some (.ref a0), some (.int (-1)), some (.int 0), some (.int 0), none]) (q := 6) rfl (Nat.le_of_ble_eq_true rfl) rfl rfl ?_
  refine lz_X3_quietTable_6 hd a0 ha0  _ (fun v1_12 z13 z14 z15 g16 => ?_) fuel0 (-1) 0 0 h (none)
  refine y_iload_n (q := 52) rfl rfl rfl ?_
  exact y_retI rfl (by decide) rfl rfl
def f_X4_put (v1 : Int32) (h : dH) : Option (Int32 × dH) := if (h 1 0).toInt < 160 then (if 0 ≤ (h 1 0).toInt ∧ (h 1 0).toInt < 160 then (oH (dU h 5 ((h 1 0).toInt.toNat) v1) (fun g3 => oH (dU g3 1 0 ((g3 1 0) + 1)) (fun g5 => some (1, g5)))) else none) else (some (0, h))
theorem m_X4_put {d : Nat} (hd : 1 ≤ d) (v1 : Int32) (h : dH) : dX shC d 47 [.ref 1, .int v1] dI (f_X4_put v1 h) h := by
  obtain ⟨e, rfl⟩ : ∃ e, d = e + 1 := ⟨d - 1, by omega⟩
  have hd : 0 ≤ e := by omega
  refine dX_of (mj := mj47) (lo := [some (.ref 1), some (.int v1)]) rfl (Nat.le_of_ble_eq_true rfl) rfl ?_
  unfold f_X4_put
  refine y_aload_n (q := 1) rfl rfl rfl ?_
  refine y_getI (q := 4) rfl rfl (by decide) atC1 rfl rfl ?_
  refine y_sipush (x := 160) (q := 7) rfl (by decide) rfl ?_
  refine y_lt (q := 12) (q' := 10) rfl rfl (by decide) rfl rfl (fun c1 => ?_) (fun c2 => ?_)
  · skip
    refine y_aload_n (q := 13) rfl rfl rfl ?_
    refine y_getR (b := 5) (q := 16) rfl rfl (by decide) atC1 rfl rfl ?_
    refine y_aload_n (q := 17) rfl rfl rfl ?_
    refine y_getI (q := 20) rfl rfl (by decide) atC1 rfl rfl ?_
    refine y_iload_n (q := 21) rfl rfl rfl ?_
    refine y_guard (fun c4 => ?_)
    refine y_iast (n := 160) (N := 160) (X := (h 1 0).toInt) (K := (h 1 0).toInt.toNat) (q := 22) rfl atC5 rfl rfl c4 rfl rfl (fun g3 => ?_)
    refine y_aload_n (q := 23) rfl rfl rfl ?_
    refine y_dup (q := 24) rfl rfl ?_
    refine y_getI (q := 27) rfl rfl (by decide) atC1 rfl rfl ?_
    refine y_iconst (x := 1) (q := 28) rfl (by decide) rfl ?_
    refine y_iadd (q := 29) rfl rfl ?_
    refine y_putI (q := 32) rfl rfl (by decide) atC1 rfl rfl rfl rfl (fun g5 => ?_)
    refine y_iconst (x := 1) (q := 33) rfl (by decide) rfl ?_
    exact y_retI rfl (by decide) rfl rfl
  · skip
    refine y_iconst (x := 0) (q := 11) rfl (by decide) rfl ?_
    exact y_retI rfl (by decide) rfl rfl
def f_X4_empty  (h : dH) : Option (dH) := oH (dU h 1 0 0) (fun g1 => some g1)
theorem m_X4_empty {d : Nat} (hd : 1 ≤ d)  (h : dH) : dX shC d 48 [.ref 1] dV (f_X4_empty  h) h := by
  obtain ⟨e, rfl⟩ : ∃ e, d = e + 1 := ⟨d - 1, by omega⟩
  have hd : 0 ≤ e := by omega
  refine dX_of (mj := mj48) (lo := [some (.ref 1)]) rfl (Nat.le_of_ble_eq_true rfl) rfl ?_
  unfold f_X4_empty
  refine y_aload_n (q := 1) rfl rfl rfl ?_
  refine y_iconst (x := 0) (q := 2) rfl (by decide) rfl ?_
  refine y_putI (q := 5) rfl rfl (by decide) atC1 rfl rfl rfl rfl (fun g1 => ?_)
  exact y_retV rfl rfl rfl
end
