/-! X7_taken (by program) -/
noncomputable section
def l_X7_taken_33 (v2 : Int32) (k : Int32 → Option (Int32)) : Nat → Int32 → Option (Int32)
  | 0, _ => none
  | n + 1, v3 => if v3.toInt = (-1) then (k v3 ) else (if v3.toInt = v2.toInt then (k v3 ) else (oP (f_X7_over v3) (fun r12 => l_X7_taken_33 v2 k n r12 )))
theorem lz_X7_taken_33 {d : Nat} (hd : 2 ≤ d) (v1 : Int32) (v2 : Int32) (h : dH) (k : Int32 → Option (Int32)) (hk : ∀ (v3 : Int32), dY shM d mj232 (dP h) (k v3) 51 [some (.ref 0), some (.int v1), some (.int v2), some (.int v3)] [] h) : ∀ (n : Nat) (v3 : Int32), dY shM d mj232 (dP h) (l_X7_taken_33 v2 k n v3) 33 [some (.ref 0), some (.int v1), some (.int v2), some (.int v3)] [] h
  | 0, _ => dY_none
  | n + 1, v3 => by
    rw [l_X7_taken_33]
    refine y_iload_n (q := 34) rfl rfl rfl ?_
    refine y_iconst (x := (-1)) (q := 35) rfl (by decide) rfl ?_
    refine y_eq (q := 51) (q' := 38) rfl rfl (by decide) rfl rfl (fun c8 => ?_) (fun c9 => ?_)
    · skip
      exact hk v3  
    · skip
      refine y_iload_n (q := 39) rfl rfl rfl ?_
      refine y_iload_n (q := 40) rfl rfl rfl ?_
      refine y_eq (q := 51) (q' := 43) rfl rfl rfl rfl rfl (fun c10 => ?_) (fun c11 => ?_)
      · skip
        exact hk v3  
      · skip
        refine y_iload_n (q := 44) rfl rfl rfl ?_
        refine y_callP (I := .invokestatic 471) (idx := 471) (KD := 0) (J := 241) (mj := mj231) (as := [.int v3]) (r := []) (q := 47) rfl (fun _ _ _ _ _ _ => rfl) rfl (by decide) rfl rfl rfl rfl rfl (Nat.le_of_ble_eq_true rfl) rfl rfl (m_X7_over (Nat.le_trans (by decide) hd) v3 h) (fun r12 => ?_)
        refine y_istore_n (lo' := [some (.ref 0), some (.int v1), some (.int v2), some (.int r12)]) (q := 48) rfl (Nat.le_of_ble_eq_true rfl) rfl rfl ?_
        refine y_goto (q := 33) rfl rfl ?_
        exact lz_X7_taken_33 hd v1 v2 h k hk n r12  
def f_X7_taken (v1 : Int32) (v2 : Int32) (h : dH) : Option (Int32) := oP (f_X7_in (v2.toInt64) 0 5) (fun r1 => if r1.toInt = 0 then ((some (-2))) else (oP (f_X7_isHouse v1 h) (fun r4 => if r4.toInt = 0 then ((some (-11))) else (if 0 ≤ v1.toInt ∧ v1.toInt < 8 then (l_X7_taken_33 v2  (fun v3_13 => if v3_13.toInt = v2.toInt then (if 0 ≤ v1.toInt ∧ v1.toInt < 8 then ((some (h 5 (v1.toInt.toNat)))) else none) else ((some (-13)))) fuel0 (h 4 (v1.toInt.toNat)) ) else none))))
theorem m_X7_taken {d : Nat} (hd : 3 ≤ d) (v1 : Int32) (v2 : Int32) (h : dH) : dX shM d 232 [.ref 0, .int v1, .int v2] (dP h) (f_X7_taken v1 v2 h) h := by
  obtain ⟨e, rfl⟩ : ∃ e, d = e + 1 := ⟨d - 1, by omega⟩
  have hd : 2 ≤ e := by omega
  refine dX_of (mj := mj232) (lo := [some (.ref 0), some (.int v1), some (.int v2), none]) rfl (Nat.le_of_ble_eq_true rfl) rfl ?_
  unfold f_X7_taken
  refine y_iload_n (q := 1) rfl rfl rfl ?_
  refine y_i2l (q := 2) rfl rfl ?_
  refine y_lconst (u := 0) (q := 3) rfl (by decide) rfl ?_
  refine y_ldc2_w (u := 5) (q := 6) rfl rfl rfl ?_
  refine y_callP (I := .invokestatic 91) (idx := 91) (KD := 0) (J := 128) (mj := mj118) (as := [.long v2.toInt64, .long 0, .long 5]) (r := []) (q := 9) rfl (fun _ _ _ _ _ _ => rfl) rfl (by decide) rfl rfl rfl rfl rfl (Nat.le_of_ble_eq_true rfl) rfl rfl (m_X7_in (Nat.le_trans (by decide) hd) (v2.toInt64) 0 5 h) (fun r1 => ?_)
  refine y_ne0 (q := 15) (q' := 12) rfl rfl rfl rfl (fun c2 => ?_) (fun c3 => ?_)
  · skip
    refine y_bipush (x := (-2)) (q := 14) rfl (by decide) rfl ?_
    exact y_retP rfl (by decide) rfl rfl
  · skip
    refine y_aload_n (q := 16) rfl rfl rfl ?_
    refine y_iload_n (q := 17) rfl rfl rfl ?_
    refine y_callP (I := .invokevirtual 105) (idx := 105) (KD := 1) (J := 132) (mj := mj122) (as := [.ref 0, .int v1]) (r := []) (q := 20) rfl (fun _ _ _ _ _ _ => rfl) rfl (by decide) rfl rfl rfl rfl rfl (Nat.le_of_ble_eq_true rfl) (d_recv atM0 (by decide) (by decide)) rfl (m_X7_isHouse (Nat.le_trans (by decide) hd) v1 h) (fun r4 => ?_)
    refine y_ne0 (q := 26) (q' := 23) rfl rfl rfl rfl (fun c5 => ?_) (fun c6 => ?_)
    · skip
      refine y_bipush (x := (-11)) (q := 25) rfl (by decide) rfl ?_
      exact y_retP rfl (by decide) rfl rfl
    · skip
      refine y_aload_n (q := 27) rfl rfl rfl ?_
      refine y_getR (b := 4) (q := 30) rfl rfl (by decide) atM0 rfl rfl ?_
      refine y_iload_n (q := 31) rfl rfl rfl ?_
      refine y_guard (fun c7 => ?_)
      refine y_iald (n := 8) (N := 8) (X := v1.toInt) (K := v1.toInt.toNat) (q := 32) hbM rfl atM4 rfl rfl c7 rfl rfl ?_
      refine y_istore_n (lo' := [some (.ref 0), some (.int v1), some (.int v2), some (.int (h 4 (v1.toInt.toNat)))]) (q := 33) rfl (Nat.le_of_ble_eq_true rfl) rfl rfl ?_
      refine lz_X7_taken_33 hd v1 v2 h _ (fun v3_13 => ?_) fuel0 (h 4 (v1.toInt.toNat))  
      refine y_iload_n (q := 52) rfl rfl rfl ?_
      refine y_iload_n (q := 53) rfl rfl rfl ?_
      refine y_ne (q := 65) (q' := 56) rfl rfl rfl rfl rfl (fun c14 => ?_) (fun c15 => ?_)
      · skip
        refine y_aload_n (q := 57) rfl rfl rfl ?_
        refine y_getR (b := 5) (q := 60) rfl rfl (by decide) atM0 rfl rfl ?_
        refine y_iload_n (q := 61) rfl rfl rfl ?_
        refine y_guard (fun c16 => ?_)
        refine y_iald (n := 8) (N := 8) (X := v1.toInt) (K := v1.toInt.toNat) (q := 62) hbM rfl atM5 rfl rfl c16 rfl rfl ?_
        refine y_goto (q := 67) rfl rfl ?_
        exact y_retP rfl (by decide) rfl rfl
      · skip
        refine y_bipush (x := (-13)) (q := 67) rfl (by decide) rfl ?_
        exact y_retP rfl (by decide) rfl rfl
end
