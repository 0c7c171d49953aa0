/-! X1_fail, X1_next, X1_expect, X1_levelOf, X1_opens, X1_operationOf, X1_readOne, X1_read, X1_readPart, X1_readInto (by program) -/
noncomputable section
def f_X1_fail  (h : dH) : Option (dH) := if (h 42 4).toInt = (-1) then (if 0 ≤ (h 42 2).toInt ∧ (h 42 2).toInt < 161 then (oH (dU h 42 4 (h 3 ((h 42 2).toInt.toNat))) (fun g4 => oH (dU g4 42 3 301) (fun g5 => some g5))) else none) else (oH (dU h 42 3 301) (fun g6 => some g6))
theorem m_X1_fail {d : Nat} (hd : 1 ≤ d)  (h : dH) : dX shC d 18 [.ref 42] dV (f_X1_fail  h) h := by
  obtain ⟨e, rfl⟩ : ∃ e, d = e + 1 := ⟨d - 1, by omega⟩
  have hd : 0 ≤ e := by omega
  refine dX_of (mj := mj18) (lo := [some (.ref 42)]) rfl (Nat.le_of_ble_eq_true rfl) rfl ?_
  unfold f_X1_fail
  refine y_aload_n (q := 1) rfl rfl rfl ?_
  refine y_getI (q := 4) rfl rfl (by decide) atC42 rfl rfl ?_
  refine y_iconst (x := (-1)) (q := 5) rfl (by decide) rfl ?_
  refine y_ne (q := 24) (q' := 8) rfl rfl (by decide) rfl rfl (fun c1 => ?_) (fun c2 => ?_)
  · skip
    refine y_aload_n (q := 9) rfl rfl rfl ?_
    refine y_aload_n (q := 10) rfl rfl rfl ?_
    refine y_getR (b := 1) (q := 13) rfl rfl (by decide) atC42 rfl rfl ?_
    refine y_getR (b := 3) (q := 16) rfl rfl (by decide) atC1 rfl rfl ?_
    refine y_aload_n (q := 17) rfl rfl rfl ?_
    refine y_getI (q := 20) rfl rfl (by decide) atC42 rfl rfl ?_
    refine y_guard (fun c3 => ?_)
    refine y_iald (n := 161) (N := 161) (X := (h 42 2).toInt) (K := (h 42 2).toInt.toNat) (q := 21) hbC rfl atC3 rfl rfl c3 rfl rfl ?_
    refine y_putI (q := 24) rfl rfl (by decide) atC42 rfl rfl rfl rfl (fun g4 => ?_)
    refine y_aload_n (q := 25) rfl rfl rfl ?_
    refine y_sipush (x := 301) (q := 28) rfl (by decide) rfl ?_
    refine y_putI (q := 31) rfl rfl (by decide) atC42 rfl rfl rfl rfl (fun g5 => ?_)
    exact y_retV rfl rfl rfl
  · skip
    refine y_aload_n (q := 25) rfl rfl rfl ?_
    refine y_sipush (x := 301) (q := 28) rfl (by decide) rfl ?_
    refine y_putI (q := 31) rfl rfl (by decide) atC42 rfl rfl rfl rfl (fun g6 => ?_)
    exact y_retV rfl rfl rfl
def f_X1_next  (h : dH) : Option (dH) := if (h 42 2).toInt < 160 then (oH (dU h 42 2 ((h 42 2) + 1)) (fun g3 => if 0 ≤ (g3 42 2).toInt ∧ (g3 42 2).toInt < 161 then (oH (dU g3 42 3 (g3 2 ((g3 42 2).toInt.toNat))) (fun g5 => some g5)) else none)) else (some h)
theorem m_X1_next {d : Nat} (hd : 1 ≤ d)  (h : dH) : dX shC d 17 [.ref 42] dV (f_X1_next  h) h := by
  obtain ⟨e, rfl⟩ : ∃ e, d = e + 1 := ⟨d - 1, by omega⟩
  have hd : 0 ≤ e := by omega
  refine dX_of (mj := mj17) (lo := [some (.ref 42)]) rfl (Nat.le_of_ble_eq_true rfl) rfl ?_
  unfold f_X1_next
  refine y_aload_n (q := 1) rfl rfl rfl ?_
  refine y_getI (q := 4) rfl rfl (by decide) atC42 rfl rfl ?_
  refine y_sipush (x := 160) (q := 7) rfl (by decide) rfl ?_
  refine y_ge (q := 36) (q' := 10) rfl rfl (by decide) rfl rfl (fun c1 => ?_) (fun c2 => ?_)
  · skip
    refine y_aload_n (q := 11) rfl rfl rfl ?_
    refine y_dup (q := 12) rfl rfl ?_
    refine y_getI (q := 15) rfl rfl (by decide) atC42 rfl rfl ?_
    refine y_iconst (x := 1) (q := 16) rfl (by decide) rfl ?_
    refine y_iadd (q := 17) rfl rfl ?_
    refine y_putI (q := 20) rfl rfl (by decide) atC42 rfl rfl rfl rfl (fun g3 => ?_)
    refine y_aload_n (q := 21) rfl rfl rfl ?_
    refine y_aload_n (q := 22) rfl rfl rfl ?_
    refine y_getR (b := 1) (q := 25) rfl rfl (by decide) atC42 rfl rfl ?_
    refine y_getR (b := 2) (q := 28) rfl rfl (by decide) atC1 rfl rfl ?_
    refine y_aload_n (q := 29) rfl rfl rfl ?_
    refine y_getI (q := 32) rfl rfl (by decide) atC42 rfl rfl ?_
    refine y_guard (fun c4 => ?_)
    refine y_iald (n := 161) (N := 161) (X := (g3 42 2).toInt) (K := (g3 42 2).toInt.toNat) (q := 33) hbC rfl atC2 rfl rfl c4 rfl rfl ?_
    refine y_putI (q := 36) rfl rfl (by decide) atC42 rfl rfl rfl rfl (fun g5 => ?_)
    exact y_retV rfl rfl rfl
  · skip
    exact y_retV rfl rfl rfl
def f_X1_expect (v1 : Int32) (h : dH) : Option (dH) := if (h 42 3).toInt = v1.toInt then (oV (f_X1_next  h) (fun g3 => some g3)) else (oV (f_X1_fail  h) (fun g4 => some g4))
theorem m_X1_expect {d : Nat} (hd : 2 ≤ d) (v1 : Int32) (h : dH) : dX shC d 16 [.ref 42, .int v1] dV (f_X1_expect v1 h) h := by
  obtain ⟨e, rfl⟩ : ∃ e, d = e + 1 := ⟨d - 1, by omega⟩
  have hd : 1 ≤ e := by omega
  refine dX_of (mj := mj16) (lo := [some (.ref 42), some (.int v1)]) rfl (Nat.le_of_ble_eq_true rfl) rfl ?_
  unfold f_X1_expect
  refine y_aload_n (q := 1) rfl rfl rfl ?_
  refine y_getI (q := 4) rfl rfl (by decide) atC42 rfl rfl ?_
  refine y_iload_n (q := 5) rfl rfl rfl ?_
  refine y_ne (q := 15) (q' := 8) rfl rfl rfl rfl rfl (fun c1 => ?_) (fun c2 => ?_)
  · skip
    refine y_aload_n (q := 9) rfl rfl rfl ?_
    refine y_callV (I := .invokevirtual 77) (idx := 77) (KD := 1) (J := 27) (mj := mj17) (as := [.ref 42]) (r := []) (q := 12) rfl (fun _ _ _ _ _ _ => rfl) rfl (by decide) rfl rfl rfl rfl rfl (Nat.le_of_ble_eq_true rfl) (d_recv atC42 (by decide) (by decide)) rfl (m_X1_next (Nat.le_trans (by decide) hd)  h) (fun g3 => ?_)
    refine y_goto (q := 19) rfl rfl ?_
    exact y_retV rfl rfl rfl
  · skip
    refine y_aload_n (q := 16) rfl rfl rfl ?_
    refine y_callV (I := .invokevirtual 47) (idx := 47) (KD := 1) (J := 28) (mj := mj18) (as := [.ref 42]) (r := []) (q := 19) rfl (fun _ _ _ _ _ _ => rfl) rfl (by decide) rfl rfl rfl rfl rfl (Nat.le_of_ble_eq_true rfl) (d_recv atC42 (by decide) (by decide)) rfl (m_X1_fail (Nat.le_trans (by decide) hd)  h) (fun g4 => ?_)
    exact y_retV rfl rfl rfl
def f_X1_levelOf (v0 : Int32) : Option (Int32) := if v0.toInt = 42 then ((some 4)) else (if v0.toInt = 43 then ((some 3)) else (if v0.toInt = 45 then ((some 3)) else (if v0.toInt = 60 then ((some 2)) else (if v0.toInt = 61 then ((some 2)) else (if v0.toInt = 307 then ((some 0)) else (if v0.toInt = 308 then ((some 1)) else ((some (-1)))))))))
theorem m_X1_levelOf {d : Nat} (hd : 1 ≤ d) (v0 : Int32) (h : dH) : dX shC d 19 [.int v0] (dP h) (f_X1_levelOf v0) h := by
  obtain ⟨e, rfl⟩ : ∃ e, d = e + 1 := ⟨d - 1, by omega⟩
  have hd : 0 ≤ e := by omega
  refine dX_of (mj := mj19) (lo := [some (.int v0)]) rfl (Nat.le_of_ble_eq_true rfl) rfl ?_
  unfold f_X1_levelOf
  refine y_iload_n (q := 1) rfl rfl rfl ?_
  refine dY_ite (fun c1 => ?_) (fun c2 => ?_)
  · skip
    refine y_look (off := 75) (q := 76) rfl (by decide) (by rw [c1]; rfl) rfl ?_
    refine y_iconst (x := 4) (q := 77) rfl (by decide) rfl ?_
    exact y_retP rfl (by decide) rfl rfl
  refine dY_ite (fun c3 => ?_) (fun c4 => ?_)
  · skip
    refine y_look (off := 73) (q := 74) rfl (by decide) (by rw [c3]; rfl) rfl ?_
    refine y_iconst (x := 3) (q := 75) rfl (by decide) rfl ?_
    exact y_retP rfl (by decide) rfl rfl
  refine dY_ite (fun c5 => ?_) (fun c6 => ?_)
  · skip
    refine y_look (off := 73) (q := 74) rfl (by decide) (by rw [c5]; rfl) rfl ?_
    refine y_iconst (x := 3) (q := 75) rfl (by decide) rfl ?_
    exact y_retP rfl (by decide) rfl rfl
  refine dY_ite (fun c7 => ?_) (fun c8 => ?_)
  · skip
    refine y_look (off := 71) (q := 72) rfl (by decide) (by rw [c7]; rfl) rfl ?_
    refine y_iconst (x := 2) (q := 73) rfl (by decide) rfl ?_
    exact y_retP rfl (by decide) rfl rfl
  refine dY_ite (fun c9 => ?_) (fun c10 => ?_)
  · skip
    refine y_look (off := 71) (q := 72) rfl (by decide) (by rw [c9]; rfl) rfl ?_
    refine y_iconst (x := 2) (q := 73) rfl (by decide) rfl ?_
    exact y_retP rfl (by decide) rfl rfl
  refine dY_ite (fun c11 => ?_) (fun c12 => ?_)
  · skip
    refine y_look (off := 67) (q := 68) rfl (by decide) (by rw [c11]; rfl) rfl ?_
    refine y_iconst (x := 0) (q := 69) rfl (by decide) rfl ?_
    exact y_retP rfl (by decide) rfl rfl
  refine dY_ite (fun c13 => ?_) (fun c14 => ?_)
  · skip
    refine y_look (off := 69) (q := 70) rfl (by decide) (by rw [c13]; rfl) rfl ?_
    refine y_iconst (x := 1) (q := 71) rfl (by decide) rfl ?_
    exact y_retP rfl (by decide) rfl rfl
  refine y_look (off := 77) (q := 78) rfl (by decide) (dlook_none (by simp [c2, c4, c6, c8, c10, c12, c14])) rfl ?_
  refine y_iconst (x := (-1)) (q := 79) rfl (by decide) rfl ?_
  exact y_retP rfl (by decide) rfl rfl
def f_X1_opens (v1 : Int32) (h : dH) : Option (Int32 × dH) := if v1.toInt < 5 then (oV (f_X1_next  h) (fun g3 => some (1, g3))) else (oV (f_X1_fail  h) (fun g4 => some (0, g4)))
theorem m_X1_opens {d : Nat} (hd : 2 ≤ d) (v1 : Int32) (h : dH) : dX shC d 15 [.ref 42, .int v1] dI (f_X1_opens v1 h) h := by
  obtain ⟨e, rfl⟩ : ∃ e, d = e + 1 := ⟨d - 1, by omega⟩
  have hd : 1 ≤ e := by omega
  refine dX_of (mj := mj15) (lo := [some (.ref 42), some (.int v1)]) rfl (Nat.le_of_ble_eq_true rfl) rfl ?_
  unfold f_X1_opens
  refine y_iload_n (q := 1) rfl rfl rfl ?_
  refine y_iconst (x := 5) (q := 2) rfl (by decide) rfl ?_
  refine y_lt (q := 11) (q' := 5) rfl rfl (by decide) rfl rfl (fun c1 => ?_) (fun c2 => ?_)
  · skip
    refine y_aload_n (q := 12) rfl rfl rfl ?_
    refine y_callV (I := .invokevirtual 77) (idx := 77) (KD := 1) (J := 27) (mj := mj17) (as := [.ref 42]) (r := []) (q := 15) rfl (fun _ _ _ _ _ _ => rfl) rfl (by decide) rfl rfl rfl rfl rfl (Nat.le_of_ble_eq_true rfl) (d_recv atC42 (by decide) (by decide)) rfl (m_X1_next (Nat.le_trans (by decide) hd)  h) (fun g3 => ?_)
    refine y_iconst (x := 1) (q := 16) rfl (by decide) rfl ?_
    exact y_retI rfl (by decide) rfl rfl
  · skip
    refine y_aload_n (q := 6) rfl rfl rfl ?_
    refine y_callV (I := .invokevirtual 47) (idx := 47) (KD := 1) (J := 28) (mj := mj18) (as := [.ref 42]) (r := []) (q := 9) rfl (fun _ _ _ _ _ _ => rfl) rfl (by decide) rfl rfl rfl rfl rfl (Nat.le_of_ble_eq_true rfl) (d_recv atC42 (by decide) (by decide)) rfl (m_X1_fail (Nat.le_trans (by decide) hd)  h) (fun g4 => ?_)
    refine y_iconst (x := 0) (q := 10) rfl (by decide) rfl ?_
    exact y_retI rfl (by decide) rfl rfl
def f_X1_operationOf (v0 : Int32) : Option (Int32) := if v0.toInt = 43 then ((some (-11))) else (if v0.toInt = 45 then ((some (-12))) else (if v0.toInt = 60 then ((some (-9))) else (if v0.toInt = 61 then ((some (-10))) else (if v0.toInt = 307 then ((some (-7))) else (if v0.toInt = 308 then ((some (-8))) else ((some (-13))))))))
theorem m_X1_operationOf {d : Nat} (hd : 1 ≤ d) (v0 : Int32) (h : dH) : dX shC d 20 [.int v0] (dP h) (f_X1_operationOf v0) h := by
  obtain ⟨e, rfl⟩ : ∃ e, d = e + 1 := ⟨d - 1, by omega⟩
  have hd : 0 ≤ e := by omega
  refine dX_of (mj := mj20) (lo := [some (.int v0)]) rfl (Nat.le_of_ble_eq_true rfl) rfl ?_
  unfold f_X1_operationOf
  refine y_iload_n (q := 1) rfl rfl rfl ?_
  refine dY_ite (fun c1 => ?_) (fun c2 => ?_)
  · skip
    refine y_look (off := 71) (q := 72) rfl (by decide) (by rw [c1]; rfl) rfl ?_
    refine y_bipush (x := (-11)) (q := 74) rfl (by decide) rfl ?_
    exact y_retP rfl (by decide) rfl rfl
  refine dY_ite (fun c3 => ?_) (fun c4 => ?_)
  · skip
    refine y_look (off := 74) (q := 75) rfl (by decide) (by rw [c3]; rfl) rfl ?_
    refine y_bipush (x := (-12)) (q := 77) rfl (by decide) rfl ?_
    exact y_retP rfl (by decide) rfl rfl
  refine dY_ite (fun c5 => ?_) (fun c6 => ?_)
  · skip
    refine y_look (off := 65) (q := 66) rfl (by decide) (by rw [c5]; rfl) rfl ?_
    refine y_bipush (x := (-9)) (q := 68) rfl (by decide) rfl ?_
    exact y_retP rfl (by decide) rfl rfl
  refine dY_ite (fun c7 => ?_) (fun c8 => ?_)
  · skip
    refine y_look (off := 68) (q := 69) rfl (by decide) (by rw [c7]; rfl) rfl ?_
    refine y_bipush (x := (-10)) (q := 71) rfl (by decide) rfl ?_
    exact y_retP rfl (by decide) rfl rfl
  refine dY_ite (fun c9 => ?_) (fun c10 => ?_)
  · skip
    refine y_look (off := 59) (q := 60) rfl (by decide) (by rw [c9]; rfl) rfl ?_
    refine y_bipush (x := (-7)) (q := 62) rfl (by decide) rfl ?_
    exact y_retP rfl (by decide) rfl rfl
  refine dY_ite (fun c11 => ?_) (fun c12 => ?_)
  · skip
    refine y_look (off := 62) (q := 63) rfl (by decide) (by rw [c11]; rfl) rfl ?_
    refine y_bipush (x := (-8)) (q := 65) rfl (by decide) rfl ?_
    exact y_retP rfl (by decide) rfl rfl
  refine y_look (off := 77) (q := 78) rfl (by decide) (dlook_none (by simp [c2, c4, c6, c8, c10, c12])) rfl ?_
  refine y_bipush (x := (-13)) (q := 80) rfl (by decide) rfl ?_
  exact y_retP rfl (by decide) rfl rfl
def f_X1_readOne (rec : Int32 → Int32 → dH → Option dH) : Nat → Int32 → dH → Option dH
  | 0, _, _ => none
  | n + 1, v1, h => if (h 42 3).toInt = 302 then (if 0 ≤ (h 42 2).toInt ∧ (h 42 2).toInt < 161 then (oV (f_X5_write (dtx (h 42 1)) (h 4 ((h 42 2).toInt.toNat)) h) (fun g4 => oV (f_X1_next  g4) (fun g5 => some g5))) else none) else (if (h 42 3).toInt = 303 then (if 0 ≤ (h 42 2).toInt ∧ (h 42 2).toInt < 161 then (oV (f_X5_write (dtx (h 42 1)) (h 4 ((h 42 2).toInt.toNat)) h) (fun g9 => oV (f_X1_next  g9) (fun g10 => some g10))) else none) else (if (h 42 3).toInt = 45 then (oI (f_X1_opens v1 h) (fun r13 g14 => if r13.toInt = 0 then (some g14) else (oV (f_X1_readOne rec n (v1 + 1) g14) (fun g17 => oV (f_X5_write (dtx (g17 42 1)) (-15) g17) (fun g18 => some g18))))) else (if (h 42 3).toInt = 40 then (oI (f_X1_opens v1 h) (fun r21 g22 => if r21.toInt = 0 then (some g22) else (oV (rec 0 (v1 + 1) g22) (fun g25 => oV (f_X1_expect 41 g25) (fun g26 => some g26))))) else (oV (f_X1_fail  h) (fun g27 => some g27)))))
theorem m_X1_readOne (rec : Int32 → Int32 → dH → Option dH) {D : Nat} (hrec : ∀ {e : Nat}, D ≤ e → ∀ a b g, dX shC e 13 [.ref 42, .int a, .int b] dV (rec a b g) g) : ∀ {n : Nat} {d : Nat} (hd : D + n + 5 ≤ d) (v1 : Int32) (h : dH), dX shC d 14 [.ref 42, .int v1] dV (f_X1_readOne rec n v1 h) h
  | 0, _, _, _, _ => fun _ h => by cases h
  | n + 1, d, hd, v1, h => by
    have ih := @m_X1_readOne rec D hrec n
    obtain ⟨e, rfl⟩ : ∃ e, d = e + 1 := ⟨d - 1, by omega⟩
    have hd : D + n + 5 ≤ e := by omega
    refine dX_of (mj := mj14) (lo := [some (.ref 42), some (.int v1)]) rfl (Nat.le_of_ble_eq_true rfl) rfl ?_
    rw [f_X1_readOne]
    refine y_aload_n (q := 1) rfl rfl rfl ?_
    refine y_getI (q := 4) rfl rfl (by decide) atC42 rfl rfl ?_
    refine y_sipush (x := 302) (q := 7) rfl (by decide) rfl ?_
    refine y_eq (q := 20) (q' := 10) rfl rfl (by decide) rfl rfl (fun c1 => ?_) (fun c2 => ?_)
    · skip
      refine y_aload_n (q := 21) rfl rfl rfl ?_
      refine y_getT (q := 24) rfl rfl (by decide) atC42 rfl rfl ?_
      refine y_aload_n (q := 25) rfl rfl rfl ?_
      refine y_getR (b := 1) (q := 28) rfl rfl (by decide) atC42 rfl rfl ?_
      refine y_getR (b := 4) (q := 31) rfl rfl (by decide) atC1 rfl rfl ?_
      refine y_aload_n (q := 32) rfl rfl rfl ?_
      refine y_getI (q := 35) rfl rfl (by decide) atC42 rfl rfl ?_
      refine y_guard (fun c3 => ?_)
      refine y_iald (n := 161) (N := 161) (X := (h 42 2).toInt) (K := (h 42 2).toInt.toNat) (q := 36) hbC rfl atC4 rfl rfl c3 rfl rfl ?_
      refine y_callV (I := .invokevirtual 67) (idx := 67) (KD := 1) (J := 70) (mj := mj60) (as := [.ref (dtx (h 42 1)), .int (h 4 ((h 42 2).toInt.toNat))]) (r := []) (q := 39) rfl (fun _ _ _ _ _ _ => rfl) rfl (by decide) rfl rfl rfl rfl rfl (Nat.le_of_ble_eq_true rfl) (d_recv (shT (zT_dtx _)) (by decide) (by decide)) rfl (m_X5_write (by omega) (dtx (h 42 1)) (zT_dtx _) (h 4 ((h 42 2).toInt.toNat)) h) (fun g4 => ?_)
      refine y_aload_n (q := 40) rfl rfl rfl ?_
      refine y_callV (I := .invokevirtual 77) (idx := 77) (KD := 1) (J := 27) (mj := mj17) (as := [.ref 42]) (r := []) (q := 43) rfl (fun _ _ _ _ _ _ => rfl) rfl (by decide) rfl rfl rfl rfl rfl (Nat.le_of_ble_eq_true rfl) (d_recv atC42 (by decide) (by decide)) rfl (m_X1_next (by omega)  g4) (fun g5 => ?_)
      refine y_goto (q := 120) rfl rfl ?_
      exact y_retV rfl rfl rfl
    · skip
      refine y_aload_n (q := 11) rfl rfl rfl ?_
      refine y_getI (q := 14) rfl rfl (by decide) atC42 rfl rfl ?_
      refine y_sipush (x := 303) (q := 17) rfl (by decide) rfl ?_
      refine y_ne (q := 46) (q' := 20) rfl rfl (by decide) rfl rfl (fun c6 => ?_) (fun c7 => ?_)
      · skip
        refine y_aload_n (q := 21) rfl rfl rfl ?_
        refine y_getT (q := 24) rfl rfl (by decide) atC42 rfl rfl ?_
        refine y_aload_n (q := 25) rfl rfl rfl ?_
        refine y_getR (b := 1) (q := 28) rfl rfl (by decide) atC42 rfl rfl ?_
        refine y_getR (b := 4) (q := 31) rfl rfl (by decide) atC1 rfl rfl ?_
        refine y_aload_n (q := 32) rfl rfl rfl ?_
        refine y_getI (q := 35) rfl rfl (by decide) atC42 rfl rfl ?_
        refine y_guard (fun c8 => ?_)
        refine y_iald (n := 161) (N := 161) (X := (h 42 2).toInt) (K := (h 42 2).toInt.toNat) (q := 36) hbC rfl atC4 rfl rfl c8 rfl rfl ?_
        refine y_callV (I := .invokevirtual 67) (idx := 67) (KD := 1) (J := 70) (mj := mj60) (as := [.ref (dtx (h 42 1)), .int (h 4 ((h 42 2).toInt.toNat))]) (r := []) (q := 39) rfl (fun _ _ _ _ _ _ => rfl) rfl (by decide) rfl rfl rfl rfl rfl (Nat.le_of_ble_eq_true rfl) (d_recv (shT (zT_dtx _)) (by decide) (by decide)) rfl (m_X5_write (by omega) (dtx (h 42 1)) (zT_dtx _) (h 4 ((h 42 2).toInt.toNat)) h) (fun g9 => ?_)
        refine y_aload_n (q := 40) rfl rfl rfl ?_
        refine y_callV (I := .invokevirtual 77) (idx := 77) (KD := 1) (J := 27) (mj := mj17) (as := [.ref 42]) (r := []) (q := 43) rfl (fun _ _ _ _ _ _ => rfl) rfl (by decide) rfl rfl rfl rfl rfl (Nat.le_of_ble_eq_true rfl) (d_recv atC42 (by decide) (by decide)) rfl (m_X1_next (by omega)  g9) (fun g10 => ?_)
        refine y_goto (q := 120) rfl rfl ?_
        exact y_retV rfl rfl rfl
      · skip
        refine y_aload_n (q := 47) rfl rfl rfl ?_
        refine y_getI (q := 50) rfl rfl (by decide) atC42 rfl rfl ?_
        refine y_bipush (x := 45) (q := 52) rfl (by decide) rfl ?_
        refine y_ne (q := 82) (q' := 55) rfl rfl (by decide) rfl rfl (fun c11 => ?_) (fun c12 => ?_)
        · skip
          refine y_aload_n (q := 56) rfl rfl rfl ?_
          refine y_iload_n (q := 57) rfl rfl rfl ?_
          refine y_callI (I := .invokevirtual 63) (idx := 63) (KD := 1) (J := 25) (mj := mj15) (as := [.ref 42, .int v1]) (r := []) (q := 60) rfl (fun _ _ _ _ _ _ => rfl) rfl (by decide) rfl rfl rfl rfl rfl (Nat.le_of_ble_eq_true rfl) (d_recv atC42 (by decide) (by decide)) rfl (m_X1_opens (by omega) v1 h) (fun r13 g14 => ?_)
          refine y_eq0 (q := 120) (q' := 63) rfl rfl rfl rfl (fun c15 => ?_) (fun c16 => ?_)
          · skip
            exact y_retV rfl rfl rfl
          · skip
            refine y_aload_n (q := 64) rfl rfl rfl ?_
            refine y_iload_n (q := 65) rfl rfl rfl ?_
            refine y_iconst (x := 1) (q := 66) rfl (by decide) rfl ?_
            refine y_iadd (q := 67) rfl rfl ?_
            refine y_callV (I := .invokevirtual 60) (idx := 60) (KD := 1) (J := 24) (mj := mj14) (as := [.ref 42, .int (v1 + 1)]) (r := []) (q := 70) rfl (fun _ _ _ _ _ _ => rfl) rfl (by decide) rfl rfl rfl rfl rfl (Nat.le_of_ble_eq_true rfl) (d_recv atC42 (by decide) (by decide)) rfl (ih (by omega) (v1 + 1) g14) (fun g17 => ?_)
            refine y_aload_n (q := 71) rfl rfl rfl ?_
            refine y_getT (q := 74) rfl rfl (by decide) atC42 rfl rfl ?_
            refine y_bipush (x := (-15)) (q := 76) rfl (by decide) rfl ?_
            refine y_callV (I := .invokevirtual 67) (idx := 67) (KD := 1) (J := 70) (mj := mj60) (as := [.ref (dtx (g17 42 1)), .int (-15)]) (r := []) (q := 79) rfl (fun _ _ _ _ _ _ => rfl) rfl (by decide) rfl rfl rfl rfl rfl (Nat.le_of_ble_eq_true rfl) (d_recv (shT (zT_dtx _)) (by decide) (by decide)) rfl (m_X5_write (by omega) (dtx (g17 42 1)) (zT_dtx _) (-15) g17) (fun g18 => ?_)
            refine y_goto (q := 120) rfl rfl ?_
            exact y_retV rfl rfl rfl
        · skip
          refine y_aload_n (q := 83) rfl rfl rfl ?_
          refine y_getI (q := 86) rfl rfl (by decide) atC42 rfl rfl ?_
          refine y_bipush (x := 40) (q := 88) rfl (by decide) rfl ?_
          refine y_ne (q := 116) (q' := 91) rfl rfl (by decide) rfl rfl (fun c19 => ?_) (fun c20 => ?_)
          · skip
            refine y_aload_n (q := 92) rfl rfl rfl ?_
            refine y_iload_n (q := 93) rfl rfl rfl ?_
            refine y_callI (I := .invokevirtual 63) (idx := 63) (KD := 1) (J := 25) (mj := mj15) (as := [.ref 42, .int v1]) (r := []) (q := 96) rfl (fun _ _ _ _ _ _ => rfl) rfl (by decide) rfl rfl rfl rfl rfl (Nat.le_of_ble_eq_true rfl) (d_recv atC42 (by decide) (by decide)) rfl (m_X1_opens (by omega) v1 h) (fun r21 g22 => ?_)
            refine y_eq0 (q := 120) (q' := 99) rfl rfl rfl rfl (fun c23 => ?_) (fun c24 => ?_)
            · skip
              exact y_retV rfl rfl rfl
            · skip
              refine y_aload_n (q := 100) rfl rfl rfl ?_
              refine y_iconst (x := 0) (q := 101) rfl (by decide) rfl ?_
              refine y_iload_n (q := 102) rfl rfl rfl ?_
              refine y_iconst (x := 1) (q := 103) rfl (by decide) rfl ?_
              refine y_iadd (q := 104) rfl rfl ?_
              refine y_callV (I := .invokevirtual 54) (idx := 54) (KD := 1) (J := 23) (mj := mj13) (as := [.ref 42, .int 0, .int (v1 + 1)]) (r := []) (q := 107) rfl (fun _ _ _ _ _ _ => rfl) rfl (by decide) rfl rfl rfl rfl rfl (Nat.le_of_ble_eq_true rfl) (d_recv atC42 (by decide) (by decide)) rfl (hrec (by omega) 0 (v1 + 1) g22) (fun g25 => ?_)
              refine y_aload_n (q := 108) rfl rfl rfl ?_
              refine y_bipush (x := 41) (q := 110) rfl (by decide) rfl ?_
              refine y_callV (I := .invokevirtual 50) (idx := 50) (KD := 1) (J := 26) (mj := mj16) (as := [.ref 42, .int 41]) (r := []) (q := 113) rfl (fun _ _ _ _ _ _ => rfl) rfl (by decide) rfl rfl rfl rfl rfl (Nat.le_of_ble_eq_true rfl) (d_recv atC42 (by decide) (by decide)) rfl (m_X1_expect (by omega) 41 g25) (fun g26 => ?_)
              refine y_goto (q := 120) rfl rfl ?_
              exact y_retV rfl rfl rfl
          · skip
            refine y_aload_n (q := 117) rfl rfl rfl ?_
            refine y_callV (I := .invokevirtual 47) (idx := 47) (KD := 1) (J := 28) (mj := mj18) (as := [.ref 42]) (r := []) (q := 120) rfl (fun _ _ _ _ _ _ => rfl) rfl (by decide) rfl rfl rfl rfl rfl (Nat.le_of_ble_eq_true rfl) (d_recv atC42 (by decide) (by decide)) rfl (m_X1_fail (by omega)  h) (fun g27 => ?_)
            exact y_retV rfl rfl rfl
def l_X1_read_76 (rec : Int32 → Int32 → dH → Option dH) (v1 : Int32) (v2 : Int32) (v3 : Int32) (k : dH → Option (dH)) : Nat → Int32 → dH → Option (dH)
  | 0, _, _ => none
  | n + 1, v4, h => if v4.toInt < v3.toInt then (oP (f_X1_levelOf (h 42 3)) (fun r19 => if r19.toInt = v1.toInt then (oP (f_X1_operationOf (h 42 3)) (fun r22 => oV (f_X1_next  h) (fun g23 => oV (rec (v1 + 1) v2 g23) (fun g24 => oV (f_X5_write (dtx (g24 42 1)) r22 g24) (fun g25 => l_X1_read_76 rec v1 v2 v3 k n (v4 + 1) g25))))) else (k  h))) else (k  h)
theorem lz_X1_read_76 {d D : Nat} (hd : D + 20 ≤ d) (rec : Int32 → Int32 → dH → Option dH) (hrec : ∀ {e : Nat}, D ≤ e → ∀ a b g, dX shC e 13 [.ref 42, .int a, .int b] dV (rec a b g) g) (v1 : Int32) (v2 : Int32) (v3 : Int32) (k : dH → Option (dH)) (hk : ∀ (w4 : Int32) (z5 : Option Value) (h : dH), dY shC d mj13 dV (k h) 129 [some (.ref 42), some (.int v1), some (.int v2), some (.int v3), some (.int w4), z5] [] h) : ∀ (n : Nat) (v4 : Int32) (h : dH) (z5 : Option Value), dY shC d mj13 dV (l_X1_read_76 rec v1 v2 v3 k n v4 h) 76 [some (.ref 42), some (.int v1), some (.int v2), some (.int v3), some (.int v4), z5] [] h
  | 0, _, _, _ => dY_none
  | n + 1, v4, h, z5 => by
    rw [l_X1_read_76]
    refine y_iload (q := 78) rfl rfl rfl ?_
    refine y_iload_n (q := 79) rfl rfl rfl ?_
    refine y_ge (q := 129) (q' := 82) rfl rfl rfl rfl rfl (fun c17 => ?_) (fun c18 => ?_)
    · skip
      refine y_aload_n (q := 83) rfl rfl rfl ?_
      refine y_getI (q := 86) rfl rfl (by decide) atC42 rfl rfl ?_
      refine y_callP (I := .invokestatic 70) (idx := 70) (KD := 0) (J := 29) (mj := mj19) (as := [.int (h 42 3)]) (r := []) (q := 89) rfl (fun _ _ _ _ _ _ => rfl) rfl (by decide) rfl rfl rfl rfl rfl (Nat.le_of_ble_eq_true rfl) rfl rfl (m_X1_levelOf (by omega) (h 42 3) h) (fun r19 => ?_)
      refine y_iload_n (q := 90) rfl rfl rfl ?_
      refine y_ne (q := 129) (q' := 93) rfl rfl rfl rfl rfl (fun c20 => ?_) (fun c21 => ?_)
      · skip
        refine y_aload_n (q := 94) rfl rfl rfl ?_
        refine y_getI (q := 97) rfl rfl (by decide) atC42 rfl rfl ?_
        refine y_callP (I := .invokestatic 74) (idx := 74) (KD := 0) (J := 30) (mj := mj20) (as := [.int (h 42 3)]) (r := []) (q := 100) rfl (fun _ _ _ _ _ _ => rfl) rfl (by decide) rfl rfl rfl rfl rfl (Nat.le_of_ble_eq_true rfl) rfl rfl (m_X1_operationOf (by omega) (h 42 3) h) (fun r22 => ?_)
        refine y_istore (lo' := [some (.ref 42), some (.int v1), some (.int v2), some (.int v3), some (.int v4), some (.int r22)]) (q := 102) rfl (Nat.le_of_ble_eq_true rfl) rfl rfl ?_
        refine y_aload_n (q := 103) rfl rfl rfl ?_
        refine y_callV (I := .invokevirtual 77) (idx := 77) (KD := 1) (J := 27) (mj := mj17) (as := [.ref 42]) (r := []) (q := 106) rfl (fun _ _ _ _ _ _ => rfl) rfl (by decide) rfl rfl rfl rfl rfl (Nat.le_of_ble_eq_true rfl) (d_recv atC42 (by decide) (by decide)) rfl (m_X1_next (by omega)  h) (fun g23 => ?_)
        refine y_aload_n (q := 107) rfl rfl rfl ?_
        refine y_iload_n (q := 108) rfl rfl rfl ?_
        refine y_iconst (x := 1) (q := 109) rfl (by decide) rfl ?_
        refine y_iadd (q := 110) rfl rfl ?_
        refine y_iload_n (q := 111) rfl rfl rfl ?_
        refine y_callV (I := .invokevirtual 54) (idx := 54) (KD := 1) (J := 23) (mj := mj13) (as := [.ref 42, .int (v1 + 1), .int v2]) (r := []) (q := 114) rfl (fun _ _ _ _ _ _ => rfl) rfl (by decide) rfl rfl rfl rfl rfl (Nat.le_of_ble_eq_true rfl) (d_recv atC42 (by decide) (by decide)) rfl (hrec (by omega) (v1 + 1) v2 g23) (fun g24 => ?_)
        refine y_aload_n (q := 115) rfl rfl rfl ?_
        refine y_getT (q := 118) rfl rfl (by decide) atC42 rfl rfl ?_
        refine y_iload (q := 120) rfl rfl rfl ?_
        refine y_callV (I := .invokevirtual 67) (idx := 67) (KD := 1) (J := 70) (mj := mj60) (as := [.ref (dtx (g24 42 1)), .int r22]) (r := []) (q := 123) rfl (fun _ _ _ _ _ _ => rfl) rfl (by decide) rfl rfl rfl rfl rfl (Nat.le_of_ble_eq_true rfl) (d_recv (shT (zT_dtx _)) (by decide) (by decide)) rfl (m_X5_write (by omega) (dtx (g24 42 1)) (zT_dtx _) r22 g24) (fun g25 => ?_)
        refine y_iinc (z := (v4 + 1)) (lo' := [some (.ref 42), some (.int v1), some (.int v2), some (.int v3), some (.int (v4 + 1)), some (.int r22)]) (q := 126) rfl rfl (Nat.le_of_ble_eq_true rfl) (by rw [oi_1]) rfl rfl ?_
        refine y_goto (q := 76) rfl rfl ?_
        exact lz_X1_read_76 hd rec hrec v1 v2 v3 k hk n (v4 + 1) g25 (some (.int r22))
      · skip
        exact hk  v4 (z5) h
    · skip
      exact hk  v4 (z5) h
def f_X1_readB (rec : Int32 → Int32 → dH → Option dH) (v1 v2 : Int32) (h : dH) : Option dH := if 4 < v1.toInt then (oV (f_X1_readOne rec 10 v2 h) (fun g3 => some g3)) else (if v1.toInt = 2 then (if (h 42 3).toInt = 309 then (oI (f_X1_opens v2 h) (fun r8 g9 => if r8.toInt = 0 then (some g9) else (oV (rec 2 (v2 + 1) g9) (fun g12 => oV (f_X5_write (dtx (g12 42 1)) (-14) g12) (fun g13 => some g13))))) else (oV (rec (v1 + 1) v2 h) (fun g14 => if v1.toInt = 2 then (l_X1_read_76 rec v1 v2 1  (fun g28 => some g28) fuel0 0 g14) else (l_X1_read_76 rec v1 v2 160  (fun g31 => some g31) fuel0 0 g14)))) else (oV (rec (v1 + 1) v2 h) (fun g32 => if v1.toInt = 2 then (l_X1_read_76 rec v1 v2 1  (fun g37 => some g37) fuel0 0 g32) else (l_X1_read_76 rec v1 v2 160  (fun g40 => some g40) fuel0 0 g32))))
theorem m_X1_readB {D : Nat} (rec : Int32 → Int32 → dH → Option dH) (hrec : ∀ {e : Nat}, D ≤ e → ∀ a b g, dX shC e 13 [.ref 42, .int a, .int b] dV (rec a b g) g) {d : Nat} (hd : D + 21 ≤ d) (v1 v2 : Int32) (h : dH) : dX shC d 13 [.ref 42, .int v1, .int v2] dV (f_X1_readB rec v1 v2 h) h := by
  obtain ⟨e, rfl⟩ : ∃ e, d = e + 1 := ⟨d - 1, by omega⟩
  have hd : D + 20 ≤ e := by omega
  refine dX_of (mj := mj13) (lo := [some (.ref 42), some (.int v1), some (.int v2), none, none, none]) rfl (Nat.le_of_ble_eq_true rfl) rfl ?_
  unfold f_X1_readB
  refine y_iload_n (q := 1) rfl rfl rfl ?_
  refine y_iconst (x := 4) (q := 2) rfl (by decide) rfl ?_
  refine y_le (q := 11) (q' := 5) rfl rfl (by decide) rfl rfl (fun c1 => ?_) (fun c2 => ?_)
  · skip
    refine y_aload_n (q := 6) rfl rfl rfl ?_
    refine y_iload_n (q := 7) rfl rfl rfl ?_
    refine y_callV (I := .invokevirtual 60) (idx := 60) (KD := 1) (J := 24) (mj := mj14) (as := [.ref 42, .int v2]) (r := []) (q := 10) rfl (fun _ _ _ _ _ _ => rfl) rfl (by decide) rfl rfl rfl rfl rfl (Nat.le_of_ble_eq_true rfl) (d_recv atC42 (by decide) (by decide)) rfl (m_X1_readOne rec hrec (n := 10) (by omega) v2 h) (fun g3 => ?_)
    exact y_retV rfl rfl rfl
  · skip
    refine y_iload_n (q := 12) rfl rfl rfl ?_
    refine y_iconst (x := 2) (q := 13) rfl (by decide) rfl ?_
    refine y_ne (q := 52) (q' := 16) rfl rfl (by decide) rfl rfl (fun c4 => ?_) (fun c5 => ?_)
    · skip
      refine y_aload_n (q := 17) rfl rfl rfl ?_
      refine y_getI (q := 20) rfl rfl (by decide) atC42 rfl rfl ?_
      refine y_sipush (x := 309) (q := 23) rfl (by decide) rfl ?_
      refine y_ne (q := 52) (q' := 26) rfl rfl (by decide) rfl rfl (fun c6 => ?_) (fun c7 => ?_)
      · skip
        refine y_aload_n (q := 27) rfl rfl rfl ?_
        refine y_iload_n (q := 28) rfl rfl rfl ?_
        refine y_callI (I := .invokevirtual 63) (idx := 63) (KD := 1) (J := 25) (mj := mj15) (as := [.ref 42, .int v2]) (r := []) (q := 31) rfl (fun _ _ _ _ _ _ => rfl) rfl (by decide) rfl rfl rfl rfl rfl (Nat.le_of_ble_eq_true rfl) (d_recv atC42 (by decide) (by decide)) rfl (m_X1_opens (by omega) v2 h) (fun r8 g9 => ?_)
        refine y_eq0 (q := 51) (q' := 34) rfl rfl rfl rfl (fun c10 => ?_) (fun c11 => ?_)
        · skip
          exact y_retV rfl rfl rfl
        · skip
          refine y_aload_n (q := 35) rfl rfl rfl ?_
          refine y_iconst (x := 2) (q := 36) rfl (by decide) rfl ?_
          refine y_iload_n (q := 37) rfl rfl rfl ?_
          refine y_iconst (x := 1) (q := 38) rfl (by decide) rfl ?_
          refine y_iadd (q := 39) rfl rfl ?_
          refine y_callV (I := .invokevirtual 54) (idx := 54) (KD := 1) (J := 23) (mj := mj13) (as := [.ref 42, .int 2, .int (v2 + 1)]) (r := []) (q := 42) rfl (fun _ _ _ _ _ _ => rfl) rfl (by decide) rfl rfl rfl rfl rfl (Nat.le_of_ble_eq_true rfl) (d_recv atC42 (by decide) (by decide)) rfl (hrec (by omega) 2 (v2 + 1) g9) (fun g12 => ?_)
          refine y_aload_n (q := 43) rfl rfl rfl ?_
          refine y_getT (q := 46) rfl rfl (by decide) atC42 rfl rfl ?_
          refine y_bipush (x := (-14)) (q := 48) rfl (by decide) rfl ?_
          refine y_callV (I := .invokevirtual 67) (idx := 67) (KD := 1) (J := 70) (mj := mj60) (as := [.ref (dtx (g12 42 1)), .int (-14)]) (r := []) (q := 51) rfl (fun _ _ _ _ _ _ => rfl) rfl (by decide) rfl rfl rfl rfl rfl (Nat.le_of_ble_eq_true rfl) (d_recv (shT (zT_dtx _)) (by decide) (by decide)) rfl (m_X5_write (by omega) (dtx (g12 42 1)) (zT_dtx _) (-14) g12) (fun g13 => ?_)
          exact y_retV rfl rfl rfl
      · skip
        refine y_aload_n (q := 53) rfl rfl rfl ?_
        refine y_iload_n (q := 54) rfl rfl rfl ?_
        refine y_iconst (x := 1) (q := 55) rfl (by decide) rfl ?_
        refine y_iadd (q := 56) rfl rfl ?_
        refine y_iload_n (q := 57) rfl rfl rfl ?_
        refine y_callV (I := .invokevirtual 54) (idx := 54) (KD := 1) (J := 23) (mj := mj13) (as := [.ref 42, .int (v1 + 1), .int v2]) (r := []) (q := 60) rfl (fun _ _ _ _ _ _ => rfl) rfl (by decide) rfl rfl rfl rfl rfl (Nat.le_of_ble_eq_true rfl) (d_recv atC42 (by decide) (by decide)) rfl (hrec (by omega) (v1 + 1) v2 h) (fun g14 => ?_)
        refine y_iload_n (q := 61) rfl rfl rfl ?_
        refine y_iconst (x := 2) (q := 62) rfl (by decide) rfl ?_
        refine y_ne (q := 69) (q' := 65) rfl rfl (by decide) rfl rfl (fun c15 => ?_) (fun c16 => ?_)
        · skip
          refine y_iconst (x := 1) (q := 66) rfl (by decide) rfl ?_
          refine y_goto (q := 72) rfl rfl ?_
          refine y_istore_n (lo' := [some (.ref 42), some (.int v1), some (.int v2), some (.int 1), none, none]) (q := 73) rfl (Nat.le_of_ble_eq_true rfl) rfl rfl ?_
          refine y_iconst (x := 0) (q := 74) rfl (by decide) rfl ?_
          refine y_istore (lo' := [some (.ref 42), some (.int v1), some (.int v2), some (.int 1), some (.int 0), none]) (q := 76) rfl (Nat.le_of_ble_eq_true rfl) rfl rfl ?_
          refine lz_X1_read_76 hd rec hrec v1 v2 1  _ (fun z26 z27 g28 => ?_) fuel0 0 g14 (none)
          exact y_retV rfl rfl rfl
        · skip
          refine y_sipush (x := 160) (q := 72) rfl (by decide) rfl ?_
          refine y_istore_n (lo' := [some (.ref 42), some (.int v1), some (.int v2), some (.int 160), none, none]) (q := 73) rfl (Nat.le_of_ble_eq_true rfl) rfl rfl ?_
          refine y_iconst (x := 0) (q := 74) rfl (by decide) rfl ?_
          refine y_istore (lo' := [some (.ref 42), some (.int v1), some (.int v2), some (.int 160), some (.int 0), none]) (q := 76) rfl (Nat.le_of_ble_eq_true rfl) rfl rfl ?_
          refine lz_X1_read_76 hd rec hrec v1 v2 160  _ (fun z29 z30 g31 => ?_) fuel0 0 g14 (none)
          exact y_retV rfl rfl rfl
    · skip
      refine y_aload_n (q := 53) rfl rfl rfl ?_
      refine y_iload_n (q := 54) rfl rfl rfl ?_
      refine y_iconst (x := 1) (q := 55) rfl (by decide) rfl ?_
      refine y_iadd (q := 56) rfl rfl ?_
      refine y_iload_n (q := 57) rfl rfl rfl ?_
      refine y_callV (I := .invokevirtual 54) (idx := 54) (KD := 1) (J := 23) (mj := mj13) (as := [.ref 42, .int (v1 + 1), .int v2]) (r := []) (q := 60) rfl (fun _ _ _ _ _ _ => rfl) rfl (by decide) rfl rfl rfl rfl rfl (Nat.le_of_ble_eq_true rfl) (d_recv atC42 (by decide) (by decide)) rfl (hrec (by omega) (v1 + 1) v2 h) (fun g32 => ?_)
      refine y_iload_n (q := 61) rfl rfl rfl ?_
      refine y_iconst (x := 2) (q := 62) rfl (by decide) rfl ?_
      refine y_ne (q := 69) (q' := 65) rfl rfl (by decide) rfl rfl (fun c33 => ?_) (fun c34 => ?_)
      · skip
        refine y_iconst (x := 1) (q := 66) rfl (by decide) rfl ?_
        refine y_goto (q := 72) rfl rfl ?_
        refine y_istore_n (lo' := [some (.ref 42), some (.int v1), some (.int v2), some (.int 1), none, none]) (q := 73) rfl (Nat.le_of_ble_eq_true rfl) rfl rfl ?_
        refine y_iconst (x := 0) (q := 74) rfl (by decide) rfl ?_
        refine y_istore (lo' := [some (.ref 42), some (.int v1), some (.int v2), some (.int 1), some (.int 0), none]) (q := 76) rfl (Nat.le_of_ble_eq_true rfl) rfl rfl ?_
        refine lz_X1_read_76 hd rec hrec v1 v2 1  _ (fun z35 z36 g37 => ?_) fuel0 0 g32 (none)
        exact y_retV rfl rfl rfl
      · skip
        refine y_sipush (x := 160) (q := 72) rfl (by decide) rfl ?_
        refine y_istore_n (lo' := [some (.ref 42), some (.int v1), some (.int v2), some (.int 160), none, none]) (q := 73) rfl (Nat.le_of_ble_eq_true rfl) rfl rfl ?_
        refine y_iconst (x := 0) (q := 74) rfl (by decide) rfl ?_
        refine y_istore (lo' := [some (.ref 42), some (.int v1), some (.int v2), some (.int 160), some (.int 0), none]) (q := 76) rfl (Nat.le_of_ble_eq_true rfl) rfl rfl ?_
        refine lz_X1_read_76 hd rec hrec v1 v2 160  _ (fun z38 z39 g40 => ?_) fuel0 0 g32 (none)
        exact y_retV rfl rfl rfl
def f_X1_read : Nat → Int32 → Int32 → dH → Option dH
  | 0 => fun _ _ _ => none
  | n + 1 => f_X1_readB (f_X1_read n)
theorem m_X1_read : ∀ {n : Nat} {d : Nat} (hd : 21 * n ≤ d) (v1 v2 : Int32) (h : dH), dX shC d 13 [.ref 42, .int v1, .int v2] dV (f_X1_read n v1 v2 h) h
  | 0, _, _, _, _, _ => fun _ h => by cases h
  | n + 1, d, hd, v1, v2, h => m_X1_readB (D := 21 * n) _ (fun he a b g => m_X1_read he a b g) (by omega) v1 v2 h
def recF : Nat := 45
def f_X1_readPart (v1 : Int32) (v2 : Int32) (h : dH) : Option (dH) := oV (f_X1_expect v1 h) (fun g1 => oV (f_X1_read recF 0 0 g1) (fun g2 => oV (f_X1_expect 59 g2) (fun g3 => oV (f_X5_endPart (dtx (g3 42 1)) v2 g3) (fun g4 => some g4))))
theorem m_X1_readPart {d : Nat} (hd : 1000 ≤ d) (v1 : Int32) (v2 : Int32) (h : dH) : dX shC d 12 [.ref 42, .int v1, .int v2] dV (f_X1_readPart v1 v2 h) h := by
  obtain ⟨e, rfl⟩ : ∃ e, d = e + 1 := ⟨d - 1, by omega⟩
  have hd : 999 ≤ e := by omega
  refine dX_of (mj := mj12) (lo := [some (.ref 42), some (.int v1), some (.int v2)]) rfl (Nat.le_of_ble_eq_true rfl) rfl ?_
  unfold f_X1_readPart
  refine y_aload_n (q := 1) rfl rfl rfl ?_
  refine y_iload_n (q := 2) rfl rfl rfl ?_
  refine y_callV (I := .invokevirtual 50) (idx := 50) (KD := 1) (J := 26) (mj := mj16) (as := [.ref 42, .int v1]) (r := []) (q := 5) rfl (fun _ _ _ _ _ _ => rfl) rfl (by decide) rfl rfl rfl rfl rfl (Nat.le_of_ble_eq_true rfl) (d_recv atC42 (by decide) (by decide)) rfl (m_X1_expect (Nat.le_trans (by decide) hd) v1 h) (fun g1 => ?_)
  refine y_aload_n (q := 6) rfl rfl rfl ?_
  refine y_iconst (x := 0) (q := 7) rfl (by decide) rfl ?_
  refine y_iconst (x := 0) (q := 8) rfl (by decide) rfl ?_
  refine y_callV (I := .invokevirtual 54) (idx := 54) (KD := 1) (J := 23) (mj := mj13) (as := [.ref 42, .int 0, .int 0]) (r := []) (q := 11) rfl (fun _ _ _ _ _ _ => rfl) rfl (by decide) rfl rfl rfl rfl rfl (Nat.le_of_ble_eq_true rfl) (d_recv atC42 (by decide) (by decide)) rfl (m_X1_read (n := recF) (Nat.le_trans (by decide) hd) 0 0 g1) (fun g2 => ?_)
  refine y_aload_n (q := 12) rfl rfl rfl ?_
  refine y_bipush (x := 59) (q := 14) rfl (by decide) rfl ?_
  refine y_callV (I := .invokevirtual 50) (idx := 50) (KD := 1) (J := 26) (mj := mj16) (as := [.ref 42, .int 59]) (r := []) (q := 17) rfl (fun _ _ _ _ _ _ => rfl) rfl (by decide) rfl rfl rfl rfl rfl (Nat.le_of_ble_eq_true rfl) (d_recv atC42 (by decide) (by decide)) rfl (m_X1_expect (Nat.le_trans (by decide) hd) 59 g2) (fun g3 => ?_)
  refine y_aload_n (q := 18) rfl rfl rfl ?_
  refine y_getT (q := 21) rfl rfl (by decide) atC42 rfl rfl ?_
  refine y_iload_n (q := 22) rfl rfl rfl ?_
  refine y_callV (I := .invokevirtual 57) (idx := 57) (KD := 1) (J := 71) (mj := mj61) (as := [.ref (dtx (g3 42 1)), .int v2]) (r := []) (q := 25) rfl (fun _ _ _ _ _ _ => rfl) rfl (by decide) rfl rfl rfl rfl rfl (Nat.le_of_ble_eq_true rfl) (d_recv (shT (zT_dtx _)) (by decide) (by decide)) rfl (m_X5_endPart (Nat.le_trans (by decide) hd) (dtx (g3 42 1)) (zT_dtx _) v2 g3) (fun g4 => ?_)
  exact y_retV rfl rfl rfl
def f_X1_readInto (a1 : Nat) (h : dH) : Option (Int32 × dH) := oH (dU h 42 1 (dti a1)) (fun g1 => oV (f_X5_clear (dtx (g1 42 1)) g1) (fun g2 => oV (f_X4_cut  g2) (fun g3 => oH (dU g3 42 2 0) (fun g4 => oH (dU g4 42 3 (g4 2 0)) (fun g5 => oH (dU g5 42 4 (-1)) (fun g6 => oV (f_X1_readPart 304 0 g6) (fun g7 => oV (f_X1_readPart 305 1 g7) (fun g8 => oV (f_X1_readPart 306 2 g8) (fun g9 => if (g9 42 3).toInt = 300 then (some ((g9 42 4), g9)) else (oV (f_X1_fail  g9) (fun g12 => some ((g12 42 4), g12))))))))))))
theorem m_X1_readInto {d : Nat} (hd : 1001 ≤ d) (a1 : Nat) (ha1 : zT a1) (h : dH) : dX shC d 11 [.ref 42, .ref a1] dI (f_X1_readInto a1 h) h := by
  obtain ⟨e, rfl⟩ : ∃ e, d = e + 1 := ⟨d - 1, by omega⟩
  have hd : 1000 ≤ e := by omega
  refine dX_of (mj := mj11) (lo := [some (.ref 42), some (.ref a1)]) rfl (Nat.le_of_ble_eq_true rfl) rfl ?_
  unfold f_X1_readInto
  refine y_aload_n (q := 1) rfl rfl rfl ?_
  refine y_aload_n (q := 2) rfl rfl rfl ?_
  refine y_putT (q := 5) rfl rfl (by decide) atC42 rfl (dtx_dti ha1) rfl rfl rfl (fun g1 => ?_)
  refine y_aload_n (q := 6) rfl rfl rfl ?_
  refine y_getT (q := 9) rfl rfl (by decide) atC42 rfl rfl ?_
  refine y_callV (I := .invokevirtual 19) (idx := 19) (KD := 1) (J := 69) (mj := mj59) (as := [.ref (dtx (g1 42 1))]) (r := []) (q := 12) rfl (fun _ _ _ _ _ _ => rfl) rfl (by decide) rfl rfl rfl rfl rfl (Nat.le_of_ble_eq_true rfl) (d_recv (shT (zT_dtx _)) (by decide) (by decide)) rfl (m_X5_clear (Nat.le_trans (by decide) hd) (dtx (g1 42 1)) (zT_dtx _) g1) (fun g2 => ?_)
  refine y_aload_n (q := 13) rfl rfl rfl ?_
  refine y_getR (b := 1) (q := 16) rfl rfl (by decide) atC42 rfl rfl ?_
  refine y_callV (I := .invokevirtual 24) (idx := 24) (KD := 1) (J := 59) (mj := mj49) (as := [.ref 1]) (r := []) (q := 19) rfl (fun _ _ _ _ _ _ => rfl) rfl (by decide) rfl rfl rfl rfl rfl (Nat.le_of_ble_eq_true rfl) (d_recv atC1 (by decide) (by decide)) rfl (m_X4_cut (Nat.le_trans (by decide) hd)  g2) (fun g3 => ?_)
  refine y_aload_n (q := 20) rfl rfl rfl ?_
  refine y_iconst (x := 0) (q := 21) rfl (by decide) rfl ?_
  refine y_putI (q := 24) rfl rfl (by decide) atC42 rfl rfl rfl rfl (fun g4 => ?_)
  refine y_aload_n (q := 25) rfl rfl rfl ?_
  refine y_aload_n (q := 26) rfl rfl rfl ?_
  refine y_getR (b := 1) (q := 29) rfl rfl (by decide) atC42 rfl rfl ?_
  refine y_getR (b := 2) (q := 32) rfl rfl (by decide) atC1 rfl rfl ?_
  refine y_iconst (x := 0) (q := 33) rfl (by decide) rfl ?_
  refine y_iald (n := 161) (N := 161) (X := 0) (K := 0) (q := 34) hbC rfl atC2 rfl (by decide) ⟨by decide, by decide⟩ rfl rfl ?_
  refine y_putI (q := 37) rfl rfl (by decide) atC42 rfl rfl rfl rfl (fun g5 => ?_)
  refine y_aload_n (q := 38) rfl rfl rfl ?_
  refine y_iconst (x := (-1)) (q := 39) rfl (by decide) rfl ?_
  refine y_putI (q := 42) rfl rfl (by decide) atC42 rfl rfl rfl rfl (fun g6 => ?_)
  refine y_aload_n (q := 43) rfl rfl rfl ?_
  refine y_sipush (x := 304) (q := 46) rfl (by decide) rfl ?_
  refine y_iconst (x := 0) (q := 47) rfl (by decide) rfl ?_
  refine y_callV (I := .invokevirtual 43) (idx := 43) (KD := 1) (J := 22) (mj := mj12) (as := [.ref 42, .int 304, .int 0]) (r := []) (q := 50) rfl (fun _ _ _ _ _ _ => rfl) rfl (by decide) rfl rfl rfl rfl rfl (Nat.le_of_ble_eq_true rfl) (d_recv atC42 (by decide) (by decide)) rfl (m_X1_readPart (Nat.le_trans (by decide) hd) 304 0 g6) (fun g7 => ?_)
  refine y_aload_n (q := 51) rfl rfl rfl ?_
  refine y_sipush (x := 305) (q := 54) rfl (by decide) rfl ?_
  refine y_iconst (x := 1) (q := 55) rfl (by decide) rfl ?_
  refine y_callV (I := .invokevirtual 43) (idx := 43) (KD := 1) (J := 22) (mj := mj12) (as := [.ref 42, .int 305, .int 1]) (r := []) (q := 58) rfl (fun _ _ _ _ _ _ => rfl) rfl (by decide) rfl rfl rfl rfl rfl (Nat.le_of_ble_eq_true rfl) (d_recv atC42 (by decide) (by decide)) rfl (m_X1_readPart (Nat.le_trans (by decide) hd) 305 1 g7) (fun g8 => ?_)
  refine y_aload_n (q := 59) rfl rfl rfl ?_
  refine y_sipush (x := 306) (q := 62) rfl (by decide) rfl ?_
  refine y_iconst (x := 2) (q := 63) rfl (by decide) rfl ?_
  refine y_callV (I := .invokevirtual 43) (idx := 43) (KD := 1) (J := 22) (mj := mj12) (as := [.ref 42, .int 306, .int 2]) (r := []) (q := 66) rfl (fun _ _ _ _ _ _ => rfl) rfl (by decide) rfl rfl rfl rfl rfl (Nat.le_of_ble_eq_true rfl) (d_recv atC42 (by decide) (by decide)) rfl (m_X1_readPart (Nat.le_trans (by decide) hd) 306 2 g8) (fun g9 => ?_)
  refine y_aload_n (q := 67) rfl rfl rfl ?_
  refine y_getI (q := 70) rfl rfl (by decide) atC42 rfl rfl ?_
  refine y_sipush (x := 300) (q := 73) rfl (by decide) rfl ?_
  refine y_eq (q := 80) (q' := 76) rfl rfl (by decide) rfl rfl (fun c10 => ?_) (fun c11 => ?_)
  · skip
    refine y_aload_n (q := 81) rfl rfl rfl ?_
    refine y_getI (q := 84) rfl rfl (by decide) atC42 rfl rfl ?_
    exact y_retI rfl (by decide) rfl rfl
  · skip
    refine y_aload_n (q := 77) rfl rfl rfl ?_
    refine y_callV (I := .invokevirtual 47) (idx := 47) (KD := 1) (J := 28) (mj := mj18) (as := [.ref 42]) (r := []) (q := 80) rfl (fun _ _ _ _ _ _ => rfl) rfl (by decide) rfl rfl rfl rfl rfl (Nat.le_of_ble_eq_true rfl) (d_recv atC42 (by decide) (by decide)) rfl (m_X1_fail (Nat.le_trans (by decide) hd)  g9) (fun g12 => ?_)
    refine y_aload_n (q := 81) rfl rfl rfl ?_
    refine y_getI (q := 84) rfl rfl (by decide) atC42 rfl rfl ?_
    exact y_retI rfl (by decide) rfl rfl
end
