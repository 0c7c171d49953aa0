/-! X6_isUnder, X6_taken (by program) -/
noncomputable section
def l_X6_isUnder_4 (v1 : Int32) (k : Option (Int32)) : Nat → Int32 → Int32 → Option (Int32)
  | 0, _, _ => none
  | n + 1, v2, v3 => if v3.toInt < 6 then (if v2.toInt < 0 then (k  ) else (if v2.toInt < 6 then (if v2.toInt = v1.toInt then ((some 1)) else (if 0 ≤ v2.toInt ∧ v2.toInt < 6 then (l_X6_isUnder_4 v1 k n (dtab 0 (v2.toInt.toNat)) (v3 + 1) ) else none)) else (k  ))) else (k  )
theorem lz_X6_isUnder_4 {d : Nat} (hd : 0 ≤ d) (v0 : Int32) (v1 : Int32) (h : dH) (k : Option (Int32)) (hk : ∀ (w2 : Int32) (w3 : Int32), dY shC d mj104 (dP h) (k ) 39 [some (.int v0), some (.int v1), some (.int w2), some (.int w3)] [] h) : ∀ (n : Nat) (v2 : Int32) (v3 : Int32), dY shC d mj104 (dP h) (l_X6_isUnder_4 v1 k n v2 v3) 4 [some (.int v0), some (.int v1), some (.int v2), some (.int v3)] [] h
  | 0, _, _ => dY_none
  | n + 1, v2, v3 => by
    rw [l_X6_isUnder_4]
    refine y_iload_n (q := 5) rfl rfl rfl ?_
    refine y_bipush (x := 6) (q := 7) rfl (by decide) rfl ?_
    refine y_ge (q := 39) (q' := 10) rfl rfl (by decide) rfl rfl (fun c1 => ?_) (fun c2 => ?_)
    · skip
      refine y_iload_n (q := 11) rfl rfl rfl ?_
      refine y_lt0 (q := 39) (q' := 14) rfl rfl rfl rfl (fun c3 => ?_) (fun c4 => ?_)
      · skip
        exact hk  v2 v3 
      · skip
        refine y_iload_n (q := 15) rfl rfl rfl ?_
        refine y_bipush (x := 6) (q := 17) rfl (by decide) rfl ?_
        refine y_ge (q := 39) (q' := 20) rfl rfl (by decide) rfl rfl (fun c5 => ?_) (fun c6 => ?_)
        · skip
          refine y_iload_n (q := 21) rfl rfl rfl ?_
          refine y_iload_n (q := 22) rfl rfl rfl ?_
          refine y_ne (q := 27) (q' := 25) rfl rfl rfl rfl rfl (fun c7 => ?_) (fun c8 => ?_)
          · skip
            refine y_iconst (x := 1) (q := 26) rfl (by decide) rfl ?_
            exact y_retP rfl (by decide) rfl rfl
          · skip
            refine y_gets (v := .ref (xB + 0)) (q := 30) rfl rfl rfl rfl rfl ?_
            refine y_iload_n (q := 31) rfl rfl rfl ?_
            refine y_guard (fun c9 => ?_)
            refine y_iald0 (p := 0) (N := 6) (X := v2.toInt) (K := v2.toInt.toNat) (q := 32) rfl rfl (by decide) rfl rfl c9 rfl rfl ?_
            refine y_istore_n (lo' := [some (.int v0), some (.int v1), some (.int (dtab 0 (v2.toInt.toNat))), some (.int v3)]) (q := 33) rfl (Nat.le_of_ble_eq_true rfl) rfl rfl ?_
            refine y_iinc (z := (v3 + 1)) (lo' := [some (.int v0), some (.int v1), some (.int (dtab 0 (v2.toInt.toNat))), some (.int (v3 + 1))]) (q := 36) rfl rfl (Nat.le_of_ble_eq_true rfl) (by rw [oi_1]) rfl rfl ?_
            refine y_goto (q := 4) rfl rfl ?_
            exact lz_X6_isUnder_4 hd v0 v1 h k hk n (dtab 0 (v2.toInt.toNat)) (v3 + 1)  
        · skip
          exact hk  v2 v3 
    · skip
      exact hk  v2 v3 
def f_X6_isUnder (v0 : Int32) (v1 : Int32) : Option (Int32) := l_X6_isUnder_4 v1  ((some 0)) fuel0 v0 0 
theorem m_X6_isUnder {d : Nat} (hd : 1 ≤ d) (v0 : Int32) (v1 : Int32) (h : dH) : dX shC d 104 [.int v0, .int v1] (dP h) (f_X6_isUnder v0 v1) h := by
  obtain ⟨e, rfl⟩ : ∃ e, d = e + 1 := ⟨d - 1, by omega⟩
  have hd : 0 ≤ e := by omega
  refine dX_of (mj := mj104) (lo := [some (.int v0), some (.int v1), none, none]) rfl (Nat.le_of_ble_eq_true rfl) rfl ?_
  unfold f_X6_isUnder
  refine y_iload_n (q := 1) rfl rfl rfl ?_
  refine y_istore_n (lo' := [some (.int v0), some (.int v1), some (.int v0), none]) (q := 2) rfl (Nat.le_of_ble_eq_true rfl) rfl rfl ?_
  refine y_iconst (x := 0) (q := 3) rfl (by decide) rfl ?_
  refine y_istore_n (lo' := [some (.int v0), some (.int v1), some (.int v0), some (.int 0)]) (q := 4) rfl (Nat.le_of_ble_eq_true rfl) rfl rfl ?_
  refine lz_X6_isUnder_4 hd v0 v1 h _ (fun z10 z11 => ?_) fuel0 v0 0  
  refine y_iconst (x := 0) (q := 40) rfl (by decide) rfl ?_
  exact y_retP rfl (by decide) rfl rfl
def f_X6_taken (v1 : Int32) (v2 : Int32) (h : dH) : Option (Int32) := if v2.toInt < 0 then ((some (-2))) else (if v2.toInt < 6 then (oP (f_X6_isHouse v1 h) (fun r5 => if r5.toInt = 0 then ((some (-11))) else (if 0 ≤ v1.toInt ∧ v1.toInt < 8 then (oP (f_X6_isUnder (h (43 + 1) (v1.toInt.toNat)) v2) (fun r9 => if r9.toInt = 0 then ((some (-13))) else (if 0 ≤ v1.toInt ∧ v1.toInt < 8 then ((some (h (43 + 2) (v1.toInt.toNat)))) else none))) else none))) else ((some (-2))))
theorem m_X6_taken {d : Nat} (hd : 2 ≤ d) (v1 : Int32) (v2 : Int32) (h : dH) : dX shC d 96 [.ref 0, .int v1, .int v2] (dP h) (f_X6_taken v1 v2 h) h := by
  obtain ⟨e, rfl⟩ : ∃ e, d = e + 1 := ⟨d - 1, by omega⟩
  have hd : 1 ≤ e := by omega
  refine dX_of (mj := mj96) (lo := [some (.ref 0), some (.int v1), some (.int v2)]) rfl (Nat.le_of_ble_eq_true rfl) rfl ?_
  unfold f_X6_taken
  refine y_iload_n (q := 1) rfl rfl rfl ?_
  refine y_lt0 (q := 10) (q' := 4) rfl rfl rfl rfl (fun c1 => ?_) (fun c2 => ?_)
  · skip
    refine y_bipush (x := (-2)) (q := 12) rfl (by decide) rfl ?_
    exact y_retP rfl (by decide) rfl rfl
  · skip
    refine y_iload_n (q := 5) rfl rfl rfl ?_
    refine y_bipush (x := 6) (q := 7) rfl (by decide) rfl ?_
    refine y_lt (q := 13) (q' := 10) rfl rfl (by decide) rfl rfl (fun c3 => ?_) (fun c4 => ?_)
    · skip
      refine y_aload_n (q := 14) rfl rfl rfl ?_
      refine y_iload_n (q := 15) rfl rfl rfl ?_
      refine y_callP (I := .invokevirtual 90) (idx := 90) (KD := 1) (J := 107) (mj := mj97) (as := [.ref 0, .int v1]) (r := []) (q := 18) rfl (fun _ _ _ _ _ _ => rfl) rfl (by decide) rfl rfl rfl rfl rfl (Nat.le_of_ble_eq_true rfl) (d_recv atC0 (by decide) (by decide)) rfl (m_X6_isHouse (Nat.le_trans (by decide) hd) v1 h) (fun r5 => ?_)
      refine y_ne0 (q := 24) (q' := 21) rfl rfl rfl rfl (fun c6 => ?_) (fun c7 => ?_)
      · skip
        refine y_bipush (x := (-11)) (q := 23) rfl (by decide) rfl ?_
        exact y_retP rfl (by decide) rfl rfl
      · skip
        refine y_aload_n (q := 25) rfl rfl rfl ?_
        refine y_getR (b := 43) (q := 28) rfl rfl (by decide) atC0 rfl rfl ?_
        refine y_getR (b := (43 + 1)) (q := 31) rfl rfl (by decide) (shS zS43) rfl rfl ?_
        refine y_iload_n (q := 32) rfl rfl rfl ?_
        refine y_guard (fun c8 => ?_)
        refine y_iald (n := 8) (N := 8) (X := v1.toInt) (K := v1.toInt.toNat) (q := 33) hbC rfl (shS1 zS43) rfl rfl c8 rfl rfl ?_
        refine y_iload_n (q := 34) rfl rfl rfl ?_
        refine y_callP (I := .invokestatic 277) (idx := 277) (KD := 0) (J := 114) (mj := mj104) (as := [.int (h (43 + 1) (v1.toInt.toNat)), .int v2]) (r := []) (q := 37) rfl (fun _ _ _ _ _ _ => rfl) rfl (by decide) rfl rfl rfl rfl rfl (Nat.le_of_ble_eq_true rfl) rfl rfl (m_X6_isUnder (Nat.le_trans (by decide) hd) (h (43 + 1) (v1.toInt.toNat)) v2 h) (fun r9 => ?_)
        refine y_eq0 (q := 52) (q' := 40) rfl rfl rfl rfl (fun c10 => ?_) (fun c11 => ?_)
        · skip
          refine y_bipush (x := (-13)) (q := 54) rfl (by decide) rfl ?_
          exact y_retP rfl (by decide) rfl rfl
        · skip
          refine y_aload_n (q := 41) rfl rfl rfl ?_
          refine y_getR (b := 43) (q := 44) rfl rfl (by decide) atC0 rfl rfl ?_
          refine y_getR (b := (43 + 2)) (q := 47) rfl rfl (by decide) (shS zS43) rfl rfl ?_
          refine y_iload_n (q := 48) rfl rfl rfl ?_
          refine y_guard (fun c12 => ?_)
          refine y_iald (n := 8) (N := 8) (X := v1.toInt) (K := v1.toInt.toNat) (q := 49) hbC rfl (shS2 zS43) rfl rfl c12 rfl rfl ?_
          refine y_goto (q := 54) rfl rfl ?_
          exact y_retP rfl (by decide) rfl rfl
    · skip
      refine y_bipush (x := (-2)) (q := 12) rfl (by decide) rfl ?_
      exact y_retP rfl (by decide) rfl rfl
end
