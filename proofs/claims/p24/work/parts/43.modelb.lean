/-! X7_not5, X7_both5, X7_either5, X7_atom4, X7_term4, X7_added4, X7_not4, X7_both4, X7_either4, X7_atom3, X7_term3, X7_added3, X7_not3, X7_both3 (by program) -/
noncomputable section
def f_X7_not5  (h : dH) : Option (Int32 × dH) := oP (f_X7_isWord 110 111 116 0 0 0 0 0 h) (fun r1 => if r1.toInt = 0 then (oI (f_X7_added5  h) (fun r4 g5 => oP (f_X7_isSign 60 g5) (fun r6 => if r6.toInt = 0 then (oP (f_X7_isSign 61 g5) (fun r9 => if r9.toInt = 0 then (some (r4, g5)) else (if (dlcmp (g5 0 25).toInt64 60).toInt = 0 then (oV (f_X7_next  g5) (fun g14 => oI (f_X7_added5  g14) (fun r15 g16 => if r4.toInt < r15.toInt then (some (1, g16)) else (some (0, g16))))) else (oV (f_X7_next  g5) (fun g19 => oI (f_X7_added5  g19) (fun r20 g21 => if r4.toInt = r20.toInt then (some (1, g21)) else (some (0, g21)))))))) else (if (dlcmp (g5 0 25).toInt64 60).toInt = 0 then (oV (f_X7_next  g5) (fun g26 => oI (f_X7_added5  g26) (fun r27 g28 => if r4.toInt < r27.toInt then (some (1, g28)) else (some (0, g28))))) else (oV (f_X7_next  g5) (fun g31 => oI (f_X7_added5  g31) (fun r32 g33 => if r4.toInt = r32.toInt then (some (1, g33)) else (some (0, g33))))))))) else (oI (f_X7_opens  h) (fun r36 g37 => some (0, g37))))
theorem m_X7_not5 {d : Nat} (hd : 8 ≤ d)  (h : dH) : dX shM d 145 [.ref 0] dI (f_X7_not5  h) h := by
  obtain ⟨e, rfl⟩ : ∃ e, d = e + 1 := ⟨d - 1, by omega⟩
  have hd : 7 ≤ e := by omega
  refine dX_of (mj := mj145) (lo := [some (.ref 0), none, none, none]) rfl (Nat.le_of_ble_eq_true rfl) rfl ?_
  unfold f_X7_not5
  refine y_aload_n (q := 1) rfl rfl rfl ?_
  refine y_bipush (x := 110) (q := 3) rfl (by decide) rfl ?_
  refine y_bipush (x := 111) (q := 5) rfl (by decide) rfl ?_
  refine y_bipush (x := 116) (q := 7) rfl (by decide) rfl ?_
  refine y_iconst (x := 0) (q := 8) rfl (by decide) rfl ?_
  refine y_iconst (x := 0) (q := 9) rfl (by decide) rfl ?_
  refine y_iconst (x := 0) (q := 10) rfl (by decide) rfl ?_
  refine y_iconst (x := 0) (q := 11) rfl (by decide) rfl ?_
  refine y_iconst (x := 0) (q := 12) rfl (by decide) rfl ?_
  refine y_callP (I := .invokevirtual 212) (idx := 212) (KD := 1) (J := 148) (mj := mj138) (as := [.ref 0, .int 110, .int 111, .int 116, .int 0, .int 0, .int 0, .int 0, .int 0]) (r := []) (q := 15) rfl (fun _ _ _ _ _ _ => rfl) rfl (by decide) rfl rfl rfl rfl rfl (Nat.le_of_ble_eq_true rfl) (d_recv atM0 (by decide) (by decide)) rfl (m_X7_isWord (Nat.le_trans (by decide) hd) 110 111 116 0 0 0 0 0 h) (fun r1 => ?_)
  refine y_eq0 (q := 25) (q' := 18) rfl rfl rfl rfl (fun c2 => ?_) (fun c3 => ?_)
  · skip
    refine y_aload_n (q := 26) rfl rfl rfl ?_
    refine y_callI (I := .invokevirtual 253) (idx := 253) (KD := 1) (J := 154) (mj := mj144) (as := [.ref 0]) (r := []) (q := 29) rfl (fun _ _ _ _ _ _ => rfl) rfl (by decide) rfl rfl rfl rfl rfl (Nat.le_of_ble_eq_true rfl) (d_recv atM0 (by decide) (by decide)) rfl (m_X7_added5 (Nat.le_trans (by decide) hd)  h) (fun r4 g5 => ?_)
    refine y_istore_n (lo' := [some (.ref 0), some (.int r4), none, none]) (q := 30) rfl (Nat.le_of_ble_eq_true rfl) rfl rfl ?_
    refine y_aload_n (q := 31) rfl rfl rfl ?_
    refine y_bipush (x := 60) (q := 33) rfl (by decide) rfl ?_
    refine y_callP (I := .invokevirtual 234) (idx := 234) (KD := 1) (J := 149) (mj := mj139) (as := [.ref 0, .int 60]) (r := []) (q := 36) rfl (fun _ _ _ _ _ _ => rfl) rfl (by decide) rfl rfl rfl rfl rfl (Nat.le_of_ble_eq_true rfl) (d_recv atM0 (by decide) (by decide)) rfl (m_X7_isSign (Nat.le_trans (by decide) hd) 60 g5) (fun r6 => ?_)
    refine y_ne0 (q := 50) (q' := 39) rfl rfl rfl rfl (fun c7 => ?_) (fun c8 => ?_)
    · skip
      refine y_aload_n (q := 40) rfl rfl rfl ?_
      refine y_bipush (x := 61) (q := 42) rfl (by decide) rfl ?_
      refine y_callP (I := .invokevirtual 234) (idx := 234) (KD := 1) (J := 149) (mj := mj139) (as := [.ref 0, .int 61]) (r := []) (q := 45) rfl (fun _ _ _ _ _ _ => rfl) rfl (by decide) rfl rfl rfl rfl rfl (Nat.le_of_ble_eq_true rfl) (d_recv atM0 (by decide) (by decide)) rfl (m_X7_isSign (Nat.le_trans (by decide) hd) 61 g5) (fun r9 => ?_)
      refine y_ne0 (q := 50) (q' := 48) rfl rfl rfl rfl (fun c10 => ?_) (fun c11 => ?_)
      · skip
        refine y_iload_n (q := 49) rfl rfl rfl ?_
        exact y_retI rfl (by decide) rfl rfl
      · skip
        refine y_aload_n (q := 51) rfl rfl rfl ?_
        refine y_getL (q := 54) rfl rfl (by decide) atM0 rfl rfl ?_
        refine y_ldc2_w (u := 60) (q := 57) rfl rfl rfl ?_
        refine y_lcmp (q := 58) rfl rfl ?_
        refine y_ne0 (q := 65) (q' := 61) rfl rfl rfl rfl (fun c12 => ?_) (fun c13 => ?_)
        · skip
          refine y_iconst (x := 1) (q := 62) rfl (by decide) rfl ?_
          refine y_goto (q := 66) rfl rfl ?_
          refine y_istore_n (lo' := [some (.ref 0), some (.int r4), some (.int 1), none]) (q := 67) rfl (Nat.le_of_ble_eq_true rfl) rfl rfl ?_
          refine y_aload_n (q := 68) rfl rfl rfl ?_
          refine y_callV (I := .invokevirtual 209) (idx := 209) (KD := 1) (J := 145) (mj := mj135) (as := [.ref 0]) (r := []) (q := 71) rfl (fun _ _ _ _ _ _ => rfl) rfl (by decide) rfl rfl rfl rfl rfl (Nat.le_of_ble_eq_true rfl) (d_recv atM0 (by decide) (by decide)) rfl (m_X7_next (Nat.le_trans (by decide) hd)  g5) (fun g14 => ?_)
          refine y_aload_n (q := 72) rfl rfl rfl ?_
          refine y_callI (I := .invokevirtual 253) (idx := 253) (KD := 1) (J := 154) (mj := mj144) (as := [.ref 0]) (r := []) (q := 75) rfl (fun _ _ _ _ _ _ => rfl) rfl (by decide) rfl rfl rfl rfl rfl (Nat.le_of_ble_eq_true rfl) (d_recv atM0 (by decide) (by decide)) rfl (m_X7_added5 (Nat.le_trans (by decide) hd)  g14) (fun r15 g16 => ?_)
          refine y_istore_n (lo' := [some (.ref 0), some (.int r4), some (.int 1), some (.int r15)]) (q := 76) rfl (Nat.le_of_ble_eq_true rfl) rfl rfl ?_
          refine y_iload_n (q := 77) rfl rfl rfl ?_
          refine y_ifF (q := 80) rfl (by decide) rfl rfl ?_
          refine y_iload_n (q := 81) rfl rfl rfl ?_
          refine y_iload_n (q := 82) rfl rfl rfl ?_
          refine y_ge (q := 97) (q' := 85) rfl rfl rfl rfl rfl (fun c17 => ?_) (fun c18 => ?_)
          · skip
            refine y_goto (q := 93) rfl rfl ?_
            refine y_iconst (x := 1) (q := 94) rfl (by decide) rfl ?_
            refine y_goto (q := 98) rfl rfl ?_
            exact y_retI rfl (by decide) rfl rfl
          · skip
            refine y_iconst (x := 0) (q := 98) rfl (by decide) rfl ?_
            exact y_retI rfl (by decide) rfl rfl
        · skip
          refine y_iconst (x := 0) (q := 66) rfl (by decide) rfl ?_
          refine y_istore_n (lo' := [some (.ref 0), some (.int r4), some (.int 0), none]) (q := 67) rfl (Nat.le_of_ble_eq_true rfl) rfl rfl ?_
          refine y_aload_n (q := 68) rfl rfl rfl ?_
          refine y_callV (I := .invokevirtual 209) (idx := 209) (KD := 1) (J := 145) (mj := mj135) (as := [.ref 0]) (r := []) (q := 71) rfl (fun _ _ _ _ _ _ => rfl) rfl (by decide) rfl rfl rfl rfl rfl (Nat.le_of_ble_eq_true rfl) (d_recv atM0 (by decide) (by decide)) rfl (m_X7_next (Nat.le_trans (by decide) hd)  g5) (fun g19 => ?_)
          refine y_aload_n (q := 72) rfl rfl rfl ?_
          refine y_callI (I := .invokevirtual 253) (idx := 253) (KD := 1) (J := 154) (mj := mj144) (as := [.ref 0]) (r := []) (q := 75) rfl (fun _ _ _ _ _ _ => rfl) rfl (by decide) rfl rfl rfl rfl rfl (Nat.le_of_ble_eq_true rfl) (d_recv atM0 (by decide) (by decide)) rfl (m_X7_added5 (Nat.le_trans (by decide) hd)  g19) (fun r20 g21 => ?_)
          refine y_istore_n (lo' := [some (.ref 0), some (.int r4), some (.int 0), some (.int r20)]) (q := 76) rfl (Nat.le_of_ble_eq_true rfl) rfl rfl ?_
          refine y_iload_n (q := 77) rfl rfl rfl ?_
          refine y_ifT (q := 88) rfl (by decide) rfl ?_
          refine y_iload_n (q := 89) rfl rfl rfl ?_
          refine y_iload_n (q := 90) rfl rfl rfl ?_
          refine y_ne (q := 97) (q' := 93) rfl rfl rfl rfl rfl (fun c22 => ?_) (fun c23 => ?_)
          · skip
            refine y_iconst (x := 1) (q := 94) rfl (by decide) rfl ?_
            refine y_goto (q := 98) rfl rfl ?_
            exact y_retI rfl (by decide) rfl rfl
          · skip
            refine y_iconst (x := 0) (q := 98) rfl (by decide) rfl ?_
            exact y_retI rfl (by decide) rfl rfl
    · skip
      refine y_aload_n (q := 51) rfl rfl rfl ?_
      refine y_getL (q := 54) rfl rfl (by decide) atM0 rfl rfl ?_
      refine y_ldc2_w (u := 60) (q := 57) rfl rfl rfl ?_
      refine y_lcmp (q := 58) rfl rfl ?_
      refine y_ne0 (q := 65) (q' := 61) rfl rfl rfl rfl (fun c24 => ?_) (fun c25 => ?_)
      · skip
        refine y_iconst (x := 1) (q := 62) rfl (by decide) rfl ?_
        refine y_goto (q := 66) rfl rfl ?_
        refine y_istore_n (lo' := [some (.ref 0), some (.int r4), some (.int 1), none]) (q := 67) rfl (Nat.le_of_ble_eq_true rfl) rfl rfl ?_
        refine y_aload_n (q := 68) rfl rfl rfl ?_
        refine y_callV (I := .invokevirtual 209) (idx := 209) (KD := 1) (J := 145) (mj := mj135) (as := [.ref 0]) (r := []) (q := 71) rfl (fun _ _ _ _ _ _ => rfl) rfl (by decide) rfl rfl rfl rfl rfl (Nat.le_of_ble_eq_true rfl) (d_recv atM0 (by decide) (by decide)) rfl (m_X7_next (Nat.le_trans (by decide) hd)  g5) (fun g26 => ?_)
        refine y_aload_n (q := 72) rfl rfl rfl ?_
        refine y_callI (I := .invokevirtual 253) (idx := 253) (KD := 1) (J := 154) (mj := mj144) (as := [.ref 0]) (r := []) (q := 75) rfl (fun _ _ _ _ _ _ => rfl) rfl (by decide) rfl rfl rfl rfl rfl (Nat.le_of_ble_eq_true rfl) (d_recv atM0 (by decide) (by decide)) rfl (m_X7_added5 (Nat.le_trans (by decide) hd)  g26) (fun r27 g28 => ?_)
        refine y_istore_n (lo' := [some (.ref 0), some (.int r4), some (.int 1), some (.int r27)]) (q := 76) rfl (Nat.le_of_ble_eq_true rfl) rfl rfl ?_
        refine y_iload_n (q := 77) rfl rfl rfl ?_
        refine y_ifF (q := 80) rfl (by decide) rfl rfl ?_
        refine y_iload_n (q := 81) rfl rfl rfl ?_
        refine y_iload_n (q := 82) rfl rfl rfl ?_
        refine y_ge (q := 97) (q' := 85) rfl rfl rfl rfl rfl (fun c29 => ?_) (fun c30 => ?_)
        · skip
          refine y_goto (q := 93) rfl rfl ?_
          refine y_iconst (x := 1) (q := 94) rfl (by decide) rfl ?_
          refine y_goto (q := 98) rfl rfl ?_
          exact y_retI rfl (by decide) rfl rfl
        · skip
          refine y_iconst (x := 0) (q := 98) rfl (by decide) rfl ?_
          exact y_retI rfl (by decide) rfl rfl
      · skip
        refine y_iconst (x := 0) (q := 66) rfl (by decide) rfl ?_
        refine y_istore_n (lo' := [some (.ref 0), some (.int r4), some (.int 0), none]) (q := 67) rfl (Nat.le_of_ble_eq_true rfl) rfl rfl ?_
        refine y_aload_n (q := 68) rfl rfl rfl ?_
        refine y_callV (I := .invokevirtual 209) (idx := 209) (KD := 1) (J := 145) (mj := mj135) (as := [.ref 0]) (r := []) (q := 71) rfl (fun _ _ _ _ _ _ => rfl) rfl (by decide) rfl rfl rfl rfl rfl (Nat.le_of_ble_eq_true rfl) (d_recv atM0 (by decide) (by decide)) rfl (m_X7_next (Nat.le_trans (by decide) hd)  g5) (fun g31 => ?_)
        refine y_aload_n (q := 72) rfl rfl rfl ?_
        refine y_callI (I := .invokevirtual 253) (idx := 253) (KD := 1) (J := 154) (mj := mj144) (as := [.ref 0]) (r := []) (q := 75) rfl (fun _ _ _ _ _ _ => rfl) rfl (by decide) rfl rfl rfl rfl rfl (Nat.le_of_ble_eq_true rfl) (d_recv atM0 (by decide) (by decide)) rfl (m_X7_added5 (Nat.le_trans (by decide) hd)  g31) (fun r32 g33 => ?_)
        refine y_istore_n (lo' := [some (.ref 0), some (.int r4), some (.int 0), some (.int r32)]) (q := 76) rfl (Nat.le_of_ble_eq_true rfl) rfl rfl ?_
        refine y_iload_n (q := 77) rfl rfl rfl ?_
        refine y_ifT (q := 88) rfl (by decide) rfl ?_
        refine y_iload_n (q := 89) rfl rfl rfl ?_
        refine y_iload_n (q := 90) rfl rfl rfl ?_
        refine y_ne (q := 97) (q' := 93) rfl rfl rfl rfl rfl (fun c34 => ?_) (fun c35 => ?_)
        · skip
          refine y_iconst (x := 1) (q := 94) rfl (by decide) rfl ?_
          refine y_goto (q := 98) rfl rfl ?_
          exact y_retI rfl (by decide) rfl rfl
        · skip
          refine y_iconst (x := 0) (q := 98) rfl (by decide) rfl ?_
          exact y_retI rfl (by decide) rfl rfl
  · skip
    refine y_aload_n (q := 19) rfl rfl rfl ?_
    refine y_callI (I := .invokevirtual 237) (idx := 237) (KD := 1) (J := 150) (mj := mj140) (as := [.ref 0]) (r := []) (q := 22) rfl (fun _ _ _ _ _ _ => rfl) rfl (by decide) rfl rfl rfl rfl rfl (Nat.le_of_ble_eq_true rfl) (d_recv atM0 (by decide) (by decide)) rfl (m_X7_opens (Nat.le_trans (by decide) hd)  h) (fun r36 g37 => ?_)
    refine y_pop (q := 23) rfl rfl ?_
    refine y_iconst (x := 0) (q := 24) rfl (by decide) rfl ?_
    exact y_retI rfl (by decide) rfl rfl
def l_X7_both5_5  (k : Int32 → dH → Option (Int32 × dH)) : Nat → Int32 → dH → Option (Int32 × dH)
  | 0, _, _ => none
  | n + 1, v1, h => oP (f_X7_isWord 97 110 100 0 0 0 0 0 h) (fun r3 => if r3.toInt = 0 then (k v1 h) else (oV (f_X7_next  h) (fun g6 => oI (f_X7_not5  g6) (fun r7 g8 => if v1.toInt = 0 then (l_X7_both5_5  k n 0 g8) else (if r7.toInt = 0 then (l_X7_both5_5  k n 0 g8) else (l_X7_both5_5  k n 1 g8))))))
theorem lz_X7_both5_5 {d : Nat} (hd : 8 ≤ d)  (k : Int32 → dH → Option (Int32 × dH)) (hk : ∀ (v1 : Int32) (z2 : Option Value) (h : dH), dY shM d mj146 dI (k v1 h) 49 [some (.ref 0), some (.int v1), z2] [] h) : ∀ (n : Nat) (v1 : Int32) (h : dH) (z2 : Option Value), dY shM d mj146 dI (l_X7_both5_5  k n v1 h) 5 [some (.ref 0), some (.int v1), z2] [] h
  | 0, _, _, _ => dY_none
  | n + 1, v1, h, z2 => by
    rw [l_X7_both5_5]
    refine y_aload_n (q := 6) rfl rfl rfl ?_
    refine y_bipush (x := 97) (q := 8) rfl (by decide) rfl ?_
    refine y_bipush (x := 110) (q := 10) rfl (by decide) rfl ?_
    refine y_bipush (x := 100) (q := 12) rfl (by decide) rfl ?_
    refine y_iconst (x := 0) (q := 13) rfl (by decide) rfl ?_
    refine y_iconst (x := 0) (q := 14) rfl (by decide) rfl ?_
    refine y_iconst (x := 0) (q := 15) rfl (by decide) rfl ?_
    refine y_iconst (x := 0) (q := 16) rfl (by decide) rfl ?_
    refine y_iconst (x := 0) (q := 17) rfl (by decide) rfl ?_
    refine y_callP (I := .invokevirtual 212) (idx := 212) (KD := 1) (J := 148) (mj := mj138) (as := [.ref 0, .int 97, .int 110, .int 100, .int 0, .int 0, .int 0, .int 0, .int 0]) (r := []) (q := 20) rfl (fun _ _ _ _ _ _ => rfl) rfl (by decide) rfl rfl rfl rfl rfl (Nat.le_of_ble_eq_true rfl) (d_recv atM0 (by decide) (by decide)) rfl (m_X7_isWord (Nat.le_trans (by decide) hd) 97 110 100 0 0 0 0 0 h) (fun r3 => ?_)
    refine y_eq0 (q := 49) (q' := 23) rfl rfl rfl rfl (fun c4 => ?_) (fun c5 => ?_)
    · skip
      exact hk v1 (z2) h
    · skip
      refine y_aload_n (q := 24) rfl rfl rfl ?_
      refine y_callV (I := .invokevirtual 209) (idx := 209) (KD := 1) (J := 145) (mj := mj135) (as := [.ref 0]) (r := []) (q := 27) rfl (fun _ _ _ _ _ _ => rfl) rfl (by decide) rfl rfl rfl rfl rfl (Nat.le_of_ble_eq_true rfl) (d_recv atM0 (by decide) (by decide)) rfl (m_X7_next (Nat.le_trans (by decide) hd)  h) (fun g6 => ?_)
      refine y_aload_n (q := 28) rfl rfl rfl ?_
      refine y_callI (I := .invokevirtual 258) (idx := 258) (KD := 1) (J := 155) (mj := mj145) (as := [.ref 0]) (r := []) (q := 31) rfl (fun _ _ _ _ _ _ => rfl) rfl (by decide) rfl rfl rfl rfl rfl (Nat.le_of_ble_eq_true rfl) (d_recv atM0 (by decide) (by decide)) rfl (m_X7_not5 (Nat.le_trans (by decide) hd)  g6) (fun r7 g8 => ?_)
      refine y_istore_n (lo' := [some (.ref 0), some (.int v1), some (.int r7)]) (q := 32) rfl (Nat.le_of_ble_eq_true rfl) rfl rfl ?_
      refine y_iload_n (q := 33) rfl rfl rfl ?_
      refine y_eq0 (q := 44) (q' := 36) rfl rfl rfl rfl (fun c9 => ?_) (fun c10 => ?_)
      · skip
        refine y_iconst (x := 0) (q := 45) rfl (by decide) rfl ?_
        refine y_istore_n (lo' := [some (.ref 0), some (.int 0), some (.int r7)]) (q := 46) rfl (Nat.le_of_ble_eq_true rfl) rfl rfl ?_
        refine y_goto (q := 5) rfl rfl ?_
        exact lz_X7_both5_5 hd  k hk n 0 g8 (some (.int r7))
      · skip
        refine y_iload_n (q := 37) rfl rfl rfl ?_
        refine y_eq0 (q := 44) (q' := 40) rfl rfl rfl rfl (fun c11 => ?_) (fun c12 => ?_)
        · skip
          refine y_iconst (x := 0) (q := 45) rfl (by decide) rfl ?_
          refine y_istore_n (lo' := [some (.ref 0), some (.int 0), some (.int r7)]) (q := 46) rfl (Nat.le_of_ble_eq_true rfl) rfl rfl ?_
          refine y_goto (q := 5) rfl rfl ?_
          exact lz_X7_both5_5 hd  k hk n 0 g8 (some (.int r7))
        · skip
          refine y_iconst (x := 1) (q := 41) rfl (by decide) rfl ?_
          refine y_goto (q := 45) rfl rfl ?_
          refine y_istore_n (lo' := [some (.ref 0), some (.int 1), some (.int r7)]) (q := 46) rfl (Nat.le_of_ble_eq_true rfl) rfl rfl ?_
          refine y_goto (q := 5) rfl rfl ?_
          exact lz_X7_both5_5 hd  k hk n 1 g8 (some (.int r7))
def f_X7_both5  (h : dH) : Option (Int32 × dH) := oI (f_X7_not5  h) (fun r1 g2 => l_X7_both5_5   (fun v1_13 g15 => some (v1_13, g15)) fuel0 r1 g2)
theorem m_X7_both5 {d : Nat} (hd : 9 ≤ d)  (h : dH) : dX shM d 146 [.ref 0] dI (f_X7_both5  h) h := by
  obtain ⟨e, rfl⟩ : ∃ e, d = e + 1 := ⟨d - 1, by omega⟩
  have hd : 8 ≤ e := by omega
  refine dX_of (mj := mj146) (lo := [some (.ref 0), none, none]) rfl (Nat.le_of_ble_eq_true rfl) rfl ?_
  unfold f_X7_both5
  refine y_aload_n (q := 1) rfl rfl rfl ?_
  refine y_callI (I := .invokevirtual 258) (idx := 258) (KD := 1) (J := 155) (mj := mj145) (as := [.ref 0]) (r := []) (q := 4) rfl (fun _ _ _ _ _ _ => rfl) rfl (by decide) rfl rfl rfl rfl rfl (Nat.le_of_ble_eq_true rfl) (d_recv atM0 (by decide) (by decide)) rfl (m_X7_not5 (Nat.le_trans (by decide) hd)  h) (fun r1 g2 => ?_)
  refine y_istore_n (lo' := [some (.ref 0), some (.int r1), none]) (q := 5) rfl (Nat.le_of_ble_eq_true rfl) rfl rfl ?_
  refine lz_X7_both5_5 hd   _ (fun v1_13 z14 g15 => ?_) fuel0 r1 g2 (none)
  refine y_iload_n (q := 50) rfl rfl rfl ?_
  exact y_retI rfl (by decide) rfl rfl
def l_X7_either5_5  (k : Int32 → dH → Option (Int32 × dH)) : Nat → Int32 → dH → Option (Int32 × dH)
  | 0, _, _ => none
  | n + 1, v1, h => oP (f_X7_isWord 111 114 0 0 0 0 0 0 h) (fun r3 => if r3.toInt = 0 then (k v1 h) else (oV (f_X7_next  h) (fun g6 => oI (f_X7_both5  g6) (fun r7 g8 => if v1.toInt = 0 then (if r7.toInt = 0 then (l_X7_either5_5  k n 0 g8) else (l_X7_either5_5  k n 1 g8)) else (l_X7_either5_5  k n 1 g8)))))
theorem lz_X7_either5_5 {d : Nat} (hd : 9 ≤ d)  (k : Int32 → dH → Option (Int32 × dH)) (hk : ∀ (v1 : Int32) (z2 : Option Value) (h : dH), dY shM d mj147 dI (k v1 h) 48 [some (.ref 0), some (.int v1), z2] [] h) : ∀ (n : Nat) (v1 : Int32) (h : dH) (z2 : Option Value), dY shM d mj147 dI (l_X7_either5_5  k n v1 h) 5 [some (.ref 0), some (.int v1), z2] [] h
  | 0, _, _, _ => dY_none
  | n + 1, v1, h, z2 => by
    rw [l_X7_either5_5]
    refine y_aload_n (q := 6) rfl rfl rfl ?_
    refine y_bipush (x := 111) (q := 8) rfl (by decide) rfl ?_
    refine y_bipush (x := 114) (q := 10) rfl (by decide) rfl ?_
    refine y_iconst (x := 0) (q := 11) rfl (by decide) rfl ?_
    refine y_iconst (x := 0) (q := 12) rfl (by decide) rfl ?_
    refine y_iconst (x := 0) (q := 13) rfl (by decide) rfl ?_
    refine y_iconst (x := 0) (q := 14) rfl (by decide) rfl ?_
    refine y_iconst (x := 0) (q := 15) rfl (by decide) rfl ?_
    refine y_iconst (x := 0) (q := 16) rfl (by decide) rfl ?_
    refine y_callP (I := .invokevirtual 212) (idx := 212) (KD := 1) (J := 148) (mj := mj138) (as := [.ref 0, .int 111, .int 114, .int 0, .int 0, .int 0, .int 0, .int 0, .int 0]) (r := []) (q := 19) rfl (fun _ _ _ _ _ _ => rfl) rfl (by decide) rfl rfl rfl rfl rfl (Nat.le_of_ble_eq_true rfl) (d_recv atM0 (by decide) (by decide)) rfl (m_X7_isWord (Nat.le_trans (by decide) hd) 111 114 0 0 0 0 0 0 h) (fun r3 => ?_)
    refine y_eq0 (q := 48) (q' := 22) rfl rfl rfl rfl (fun c4 => ?_) (fun c5 => ?_)
    · skip
      exact hk v1 (z2) h
    · skip
      refine y_aload_n (q := 23) rfl rfl rfl ?_
      refine y_callV (I := .invokevirtual 209) (idx := 209) (KD := 1) (J := 145) (mj := mj135) (as := [.ref 0]) (r := []) (q := 26) rfl (fun _ _ _ _ _ _ => rfl) rfl (by decide) rfl rfl rfl rfl rfl (Nat.le_of_ble_eq_true rfl) (d_recv atM0 (by decide) (by decide)) rfl (m_X7_next (Nat.le_trans (by decide) hd)  h) (fun g6 => ?_)
      refine y_aload_n (q := 27) rfl rfl rfl ?_
      refine y_callI (I := .invokevirtual 261) (idx := 261) (KD := 1) (J := 156) (mj := mj146) (as := [.ref 0]) (r := []) (q := 30) rfl (fun _ _ _ _ _ _ => rfl) rfl (by decide) rfl rfl rfl rfl rfl (Nat.le_of_ble_eq_true rfl) (d_recv atM0 (by decide) (by decide)) rfl (m_X7_both5 (Nat.le_trans (by decide) hd)  g6) (fun r7 g8 => ?_)
      refine y_istore_n (lo' := [some (.ref 0), some (.int v1), some (.int r7)]) (q := 31) rfl (Nat.le_of_ble_eq_true rfl) rfl rfl ?_
      refine y_iload_n (q := 32) rfl rfl rfl ?_
      refine y_ne0 (q := 39) (q' := 35) rfl rfl rfl rfl (fun c9 => ?_) (fun c10 => ?_)
      · skip
        refine y_iload_n (q := 36) rfl rfl rfl ?_
        refine y_eq0 (q := 43) (q' := 39) rfl rfl rfl rfl (fun c11 => ?_) (fun c12 => ?_)
        · skip
          refine y_iconst (x := 0) (q := 44) rfl (by decide) rfl ?_
          refine y_istore_n (lo' := [some (.ref 0), some (.int 0), some (.int r7)]) (q := 45) rfl (Nat.le_of_ble_eq_true rfl) rfl rfl ?_
          refine y_goto (q := 5) rfl rfl ?_
          exact lz_X7_either5_5 hd  k hk n 0 g8 (some (.int r7))
        · skip
          refine y_iconst (x := 1) (q := 40) rfl (by decide) rfl ?_
          refine y_goto (q := 44) rfl rfl ?_
          refine y_istore_n (lo' := [some (.ref 0), some (.int 1), some (.int r7)]) (q := 45) rfl (Nat.le_of_ble_eq_true rfl) rfl rfl ?_
          refine y_goto (q := 5) rfl rfl ?_
          exact lz_X7_either5_5 hd  k hk n 1 g8 (some (.int r7))
      · skip
        refine y_iconst (x := 1) (q := 40) rfl (by decide) rfl ?_
        refine y_goto (q := 44) rfl rfl ?_
        refine y_istore_n (lo' := [some (.ref 0), some (.int 1), some (.int r7)]) (q := 45) rfl (Nat.le_of_ble_eq_true rfl) rfl rfl ?_
        refine y_goto (q := 5) rfl rfl ?_
        exact lz_X7_either5_5 hd  k hk n 1 g8 (some (.int r7))
def f_X7_either5  (h : dH) : Option (Int32 × dH) := oI (f_X7_both5  h) (fun r1 g2 => l_X7_either5_5   (fun v1_13 g15 => some (v1_13, g15)) fuel0 r1 g2)
theorem m_X7_either5 {d : Nat} (hd : 10 ≤ d)  (h : dH) : dX shM d 147 [.ref 0] dI (f_X7_either5  h) h := by
  obtain ⟨e, rfl⟩ : ∃ e, d = e + 1 := ⟨d - 1, by omega⟩
  have hd : 9 ≤ e := by omega
  refine dX_of (mj := mj147) (lo := [some (.ref 0), none, none]) rfl (Nat.le_of_ble_eq_true rfl) rfl ?_
  unfold f_X7_either5
  refine y_aload_n (q := 1) rfl rfl rfl ?_
  refine y_callI (I := .invokevirtual 261) (idx := 261) (KD := 1) (J := 156) (mj := mj146) (as := [.ref 0]) (r := []) (q := 4) rfl (fun _ _ _ _ _ _ => rfl) rfl (by decide) rfl rfl rfl rfl rfl (Nat.le_of_ble_eq_true rfl) (d_recv atM0 (by decide) (by decide)) rfl (m_X7_both5 (Nat.le_trans (by decide) hd)  h) (fun r1 g2 => ?_)
  refine y_istore_n (lo' := [some (.ref 0), some (.int r1), none]) (q := 5) rfl (Nat.le_of_ble_eq_true rfl) rfl rfl ?_
  refine lz_X7_either5_5 hd   _ (fun v1_13 z14 g15 => ?_) fuel0 r1 g2 (none)
  refine y_iload_n (q := 49) rfl rfl rfl ?_
  exact y_retI rfl (by decide) rfl rfl
def f_X7_atom4  (h : dH) : Option (Int32 × dH) := oP (f_X7_isSign 45 h) (fun r1 => if r1.toInt = 0 then (oP (f_X7_isSign 40 h) (fun r4 => if r4.toInt = 0 then (if (h 0 27).toInt = 0 then (if (h 0 23).toInt = 2 then (oV (f_X7_next  h) (fun g11 => some ((h 0 25).toInt64.toInt32, g11))) else (if (h 0 27).toInt = 0 then (if (h 0 23).toInt = 1 then (oI (f_X7_name  h) (fun r16 g17 => if (g17 0 27).toInt = 0 then (oV (f_X7_next  g17) (fun g20 => some (r16, g20))) else (some (r16, g17)))) else (oV (f_X7_fail  h) (fun g21 => some (0, g21)))) else (oV (f_X7_fail  h) (fun g22 => some (0, g22))))) else (if (h 0 27).toInt = 0 then (if (h 0 23).toInt = 1 then (oI (f_X7_name  h) (fun r27 g28 => if (g28 0 27).toInt = 0 then (oV (f_X7_next  g28) (fun g31 => some (r27, g31))) else (some (r27, g28)))) else (oV (f_X7_fail  h) (fun g32 => some (0, g32)))) else (oV (f_X7_fail  h) (fun g33 => some (0, g33))))) else (oI (f_X7_opens  h) (fun r34 g35 => if r34.toInt = 0 then (some (0, g35)) else (oI (f_X7_either5  g35) (fun r38 g39 => oP (f_X7_isSign 41 g39) (fun r40 => if r40.toInt = 0 then (oV (f_X7_fail  g39) (fun g43 => oH (dU g43 0 26 ((g43 0 26) - 1)) (fun g44 => if (g44 0 27).toInt = 0 then (oV (f_X7_next  g44) (fun g47 => some (r38, g47))) else (some (r38, g44))))) else (oH (dU g39 0 26 ((g39 0 26) - 1)) (fun g48 => if (g48 0 27).toInt = 0 then (oV (f_X7_next  g48) (fun g51 => some (r38, g51))) else (some (r38, g48))))))))))) else (oI (f_X7_opens  h) (fun r52 g53 => if r52.toInt = 0 then (some (0, g53)) else (oI (f_X7_atom5  g53) (fun r56 g57 => oH (dU g57 0 26 ((g57 0 26) - 1)) (fun g58 => some ((-r56), g58)))))))
theorem m_X7_atom4 {d : Nat} (hd : 11 ≤ d)  (h : dH) : dX shM d 148 [.ref 0] dI (f_X7_atom4  h) h := by
  obtain ⟨e, rfl⟩ : ∃ e, d = e + 1 := ⟨d - 1, by omega⟩
  have hd : 10 ≤ e := by omega
  refine dX_of (mj := mj148) (lo := [some (.ref 0), none]) rfl (Nat.le_of_ble_eq_true rfl) rfl ?_
  unfold f_X7_atom4
  refine y_iconst (x := 0) (q := 1) rfl (by decide) rfl ?_
  refine y_istore_n (lo' := [some (.ref 0), some (.int 0)]) (q := 2) rfl (Nat.le_of_ble_eq_true rfl) rfl rfl ?_
  refine y_aload_n (q := 3) rfl rfl rfl ?_
  refine y_bipush (x := 45) (q := 5) rfl (by decide) rfl ?_
  refine y_callP (I := .invokevirtual 234) (idx := 234) (KD := 1) (J := 149) (mj := mj139) (as := [.ref 0, .int 45]) (r := []) (q := 8) rfl (fun _ _ _ _ _ _ => rfl) rfl (by decide) rfl rfl rfl rfl rfl (Nat.le_of_ble_eq_true rfl) (d_recv atM0 (by decide) (by decide)) rfl (m_X7_isSign (Nat.le_trans (by decide) hd) 45 h) (fun r1 => ?_)
  refine y_eq0 (q := 37) (q' := 11) rfl rfl rfl rfl (fun c2 => ?_) (fun c3 => ?_)
  · skip
    refine y_aload_n (q := 38) rfl rfl rfl ?_
    refine y_bipush (x := 40) (q := 40) rfl (by decide) rfl ?_
    refine y_callP (I := .invokevirtual 234) (idx := 234) (KD := 1) (J := 149) (mj := mj139) (as := [.ref 0, .int 40]) (r := []) (q := 43) rfl (fun _ _ _ _ _ _ => rfl) rfl (by decide) rfl rfl rfl rfl rfl (Nat.le_of_ble_eq_true rfl) (d_recv atM0 (by decide) (by decide)) rfl (m_X7_isSign (Nat.le_trans (by decide) hd) 40 h) (fun r4 => ?_)
    refine y_eq0 (q := 95) (q' := 46) rfl rfl rfl rfl (fun c5 => ?_) (fun c6 => ?_)
    · skip
      refine y_aload_n (q := 96) rfl rfl rfl ?_
      refine y_getI (q := 99) rfl rfl (by decide) atM0 rfl rfl ?_
      refine y_ne0 (q := 123) (q' := 102) rfl rfl rfl rfl (fun c7 => ?_) (fun c8 => ?_)
      · skip
        refine y_aload_n (q := 103) rfl rfl rfl ?_
        refine y_getI (q := 106) rfl rfl (by decide) atM0 rfl rfl ?_
        refine y_iconst (x := 2) (q := 107) rfl (by decide) rfl ?_
        refine y_ne (q := 123) (q' := 110) rfl rfl (by decide) rfl rfl (fun c9 => ?_) (fun c10 => ?_)
        · skip
          refine y_aload_n (q := 111) rfl rfl rfl ?_
          refine y_getL (q := 114) rfl rfl (by decide) atM0 rfl rfl ?_
          refine y_l2i (q := 115) rfl rfl ?_
          refine y_istore_n (lo' := [some (.ref 0), some (.int (h 0 25).toInt64.toInt32)]) (q := 116) rfl (Nat.le_of_ble_eq_true rfl) rfl rfl ?_
          refine y_aload_n (q := 117) rfl rfl rfl ?_
          refine y_callV (I := .invokevirtual 209) (idx := 209) (KD := 1) (J := 145) (mj := mj135) (as := [.ref 0]) (r := []) (q := 120) rfl (fun _ _ _ _ _ _ => rfl) rfl (by decide) rfl rfl rfl rfl rfl (Nat.le_of_ble_eq_true rfl) (d_recv atM0 (by decide) (by decide)) rfl (m_X7_next (Nat.le_trans (by decide) hd)  h) (fun g11 => ?_)
          refine y_goto (q := 161) rfl rfl ?_
          refine y_iload_n (q := 162) rfl rfl rfl ?_
          exact y_retI rfl (by decide) rfl rfl
        · skip
          refine y_aload_n (q := 124) rfl rfl rfl ?_
          refine y_getI (q := 127) rfl rfl (by decide) atM0 rfl rfl ?_
          refine y_ne0 (q := 157) (q' := 130) rfl rfl rfl rfl (fun c12 => ?_) (fun c13 => ?_)
          · skip
            refine y_aload_n (q := 131) rfl rfl rfl ?_
            refine y_getI (q := 134) rfl rfl (by decide) atM0 rfl rfl ?_
            refine y_iconst (x := 1) (q := 135) rfl (by decide) rfl ?_
            refine y_ne (q := 157) (q' := 138) rfl rfl (by decide) rfl rfl (fun c14 => ?_) (fun c15 => ?_)
            · skip
              refine y_aload_n (q := 139) rfl rfl rfl ?_
              refine y_callI (I := .invokevirtual 241) (idx := 241) (KD := 1) (J := 151) (mj := mj141) (as := [.ref 0]) (r := []) (q := 142) rfl (fun _ _ _ _ _ _ => rfl) rfl (by decide) rfl rfl rfl rfl rfl (Nat.le_of_ble_eq_true rfl) (d_recv atM0 (by decide) (by decide)) rfl (m_X7_name (Nat.le_trans (by decide) hd)  h) (fun r16 g17 => ?_)
              refine y_istore_n (lo' := [some (.ref 0), some (.int r16)]) (q := 143) rfl (Nat.le_of_ble_eq_true rfl) rfl rfl ?_
              refine y_aload_n (q := 144) rfl rfl rfl ?_
              refine y_getI (q := 147) rfl rfl (by decide) atM0 rfl rfl ?_
              refine y_ne0 (q := 161) (q' := 150) rfl rfl rfl rfl (fun c18 => ?_) (fun c19 => ?_)
              · skip
                refine y_aload_n (q := 151) rfl rfl rfl ?_
                refine y_callV (I := .invokevirtual 209) (idx := 209) (KD := 1) (J := 145) (mj := mj135) (as := [.ref 0]) (r := []) (q := 154) rfl (fun _ _ _ _ _ _ => rfl) rfl (by decide) rfl rfl rfl rfl rfl (Nat.le_of_ble_eq_true rfl) (d_recv atM0 (by decide) (by decide)) rfl (m_X7_next (Nat.le_trans (by decide) hd)  g17) (fun g20 => ?_)
                refine y_goto (q := 161) rfl rfl ?_
                refine y_iload_n (q := 162) rfl rfl rfl ?_
                exact y_retI rfl (by decide) rfl rfl
              · skip
                refine y_iload_n (q := 162) rfl rfl rfl ?_
                exact y_retI rfl (by decide) rfl rfl
            · skip
              refine y_aload_n (q := 158) rfl rfl rfl ?_
              refine y_callV (I := .invokevirtual 206) (idx := 206) (KD := 1) (J := 146) (mj := mj136) (as := [.ref 0]) (r := []) (q := 161) rfl (fun _ _ _ _ _ _ => rfl) rfl (by decide) rfl rfl rfl rfl rfl (Nat.le_of_ble_eq_true rfl) (d_recv atM0 (by decide) (by decide)) rfl (m_X7_fail (Nat.le_trans (by decide) hd)  h) (fun g21 => ?_)
              refine y_iload_n (q := 162) rfl rfl rfl ?_
              exact y_retI rfl (by decide) rfl rfl
          · skip
            refine y_aload_n (q := 158) rfl rfl rfl ?_
            refine y_callV (I := .invokevirtual 206) (idx := 206) (KD := 1) (J := 146) (mj := mj136) (as := [.ref 0]) (r := []) (q := 161) rfl (fun _ _ _ _ _ _ => rfl) rfl (by decide) rfl rfl rfl rfl rfl (Nat.le_of_ble_eq_true rfl) (d_recv atM0 (by decide) (by decide)) rfl (m_X7_fail (Nat.le_trans (by decide) hd)  h) (fun g22 => ?_)
            refine y_iload_n (q := 162) rfl rfl rfl ?_
            exact y_retI rfl (by decide) rfl rfl
      · skip
        refine y_aload_n (q := 124) rfl rfl rfl ?_
        refine y_getI (q := 127) rfl rfl (by decide) atM0 rfl rfl ?_
        refine y_ne0 (q := 157) (q' := 130) rfl rfl rfl rfl (fun c23 => ?_) (fun c24 => ?_)
        · skip
          refine y_aload_n (q := 131) rfl rfl rfl ?_
          refine y_getI (q := 134) rfl rfl (by decide) atM0 rfl rfl ?_
          refine y_iconst (x := 1) (q := 135) rfl (by decide) rfl ?_
          refine y_ne (q := 157) (q' := 138) rfl rfl (by decide) rfl rfl (fun c25 => ?_) (fun c26 => ?_)
          · skip
            refine y_aload_n (q := 139) rfl rfl rfl ?_
            refine y_callI (I := .invokevirtual 241) (idx := 241) (KD := 1) (J := 151) (mj := mj141) (as := [.ref 0]) (r := []) (q := 142) rfl (fun _ _ _ _ _ _ => rfl) rfl (by decide) rfl rfl rfl rfl rfl (Nat.le_of_ble_eq_true rfl) (d_recv atM0 (by decide) (by decide)) rfl (m_X7_name (Nat.le_trans (by decide) hd)  h) (fun r27 g28 => ?_)
            refine y_istore_n (lo' := [some (.ref 0), some (.int r27)]) (q := 143) rfl (Nat.le_of_ble_eq_true rfl) rfl rfl ?_
            refine y_aload_n (q := 144) rfl rfl rfl ?_
            refine y_getI (q := 147) rfl rfl (by decide) atM0 rfl rfl ?_
            refine y_ne0 (q := 161) (q' := 150) rfl rfl rfl rfl (fun c29 => ?_) (fun c30 => ?_)
            · skip
              refine y_aload_n (q := 151) rfl rfl rfl ?_
              refine y_callV (I := .invokevirtual 209) (idx := 209) (KD := 1) (J := 145) (mj := mj135) (as := [.ref 0]) (r := []) (q := 154) rfl (fun _ _ _ _ _ _ => rfl) rfl (by decide) rfl rfl rfl rfl rfl (Nat.le_of_ble_eq_true rfl) (d_recv atM0 (by decide) (by decide)) rfl (m_X7_next (Nat.le_trans (by decide) hd)  g28) (fun g31 => ?_)
              refine y_goto (q := 161) rfl rfl ?_
              refine y_iload_n (q := 162) rfl rfl rfl ?_
              exact y_retI rfl (by decide) rfl rfl
            · skip
              refine y_iload_n (q := 162) rfl rfl rfl ?_
              exact y_retI rfl (by decide) rfl rfl
          · skip
            refine y_aload_n (q := 158) rfl rfl rfl ?_
            refine y_callV (I := .invokevirtual 206) (idx := 206) (KD := 1) (J := 146) (mj := mj136) (as := [.ref 0]) (r := []) (q := 161) rfl (fun _ _ _ _ _ _ => rfl) rfl (by decide) rfl rfl rfl rfl rfl (Nat.le_of_ble_eq_true rfl) (d_recv atM0 (by decide) (by decide)) rfl (m_X7_fail (Nat.le_trans (by decide) hd)  h) (fun g32 => ?_)
            refine y_iload_n (q := 162) rfl rfl rfl ?_
            exact y_retI rfl (by decide) rfl rfl
        · skip
          refine y_aload_n (q := 158) rfl rfl rfl ?_
          refine y_callV (I := .invokevirtual 206) (idx := 206) (KD := 1) (J := 146) (mj := mj136) (as := [.ref 0]) (r := []) (q := 161) rfl (fun _ _ _ _ _ _ => rfl) rfl (by decide) rfl rfl rfl rfl rfl (Nat.le_of_ble_eq_true rfl) (d_recv atM0 (by decide) (by decide)) rfl (m_X7_fail (Nat.le_trans (by decide) hd)  h) (fun g33 => ?_)
          refine y_iload_n (q := 162) rfl rfl rfl ?_
          exact y_retI rfl (by decide) rfl rfl
    · skip
      refine y_aload_n (q := 47) rfl rfl rfl ?_
      refine y_callI (I := .invokevirtual 237) (idx := 237) (KD := 1) (J := 150) (mj := mj140) (as := [.ref 0]) (r := []) (q := 50) rfl (fun _ _ _ _ _ _ => rfl) rfl (by decide) rfl rfl rfl rfl rfl (Nat.le_of_ble_eq_true rfl) (d_recv atM0 (by decide) (by decide)) rfl (m_X7_opens (Nat.le_trans (by decide) hd)  h) (fun r34 g35 => ?_)
      refine y_eq0 (q := 161) (q' := 53) rfl rfl rfl rfl (fun c36 => ?_) (fun c37 => ?_)
      · skip
        refine y_iload_n (q := 162) rfl rfl rfl ?_
        exact y_retI rfl (by decide) rfl rfl
      · skip
        refine y_aload_n (q := 54) rfl rfl rfl ?_
        refine y_callI (I := .invokevirtual 264) (idx := 264) (KD := 1) (J := 157) (mj := mj147) (as := [.ref 0]) (r := []) (q := 57) rfl (fun _ _ _ _ _ _ => rfl) rfl (by decide) rfl rfl rfl rfl rfl (Nat.le_of_ble_eq_true rfl) (d_recv atM0 (by decide) (by decide)) rfl (m_X7_either5 (Nat.le_trans (by decide) hd)  g35) (fun r38 g39 => ?_)
        refine y_istore_n (lo' := [some (.ref 0), some (.int r38)]) (q := 58) rfl (Nat.le_of_ble_eq_true rfl) rfl rfl ?_
        refine y_aload_n (q := 59) rfl rfl rfl ?_
        refine y_bipush (x := 41) (q := 61) rfl (by decide) rfl ?_
        refine y_callP (I := .invokevirtual 234) (idx := 234) (KD := 1) (J := 149) (mj := mj139) (as := [.ref 0, .int 41]) (r := []) (q := 64) rfl (fun _ _ _ _ _ _ => rfl) rfl (by decide) rfl rfl rfl rfl rfl (Nat.le_of_ble_eq_true rfl) (d_recv atM0 (by decide) (by decide)) rfl (m_X7_isSign (Nat.le_trans (by decide) hd) 41 g39) (fun r40 => ?_)
        refine y_ne0 (q := 71) (q' := 67) rfl rfl rfl rfl (fun c41 => ?_) (fun c42 => ?_)
        · skip
          refine y_aload_n (q := 68) rfl rfl rfl ?_
          refine y_callV (I := .invokevirtual 206) (idx := 206) (KD := 1) (J := 146) (mj := mj136) (as := [.ref 0]) (r := []) (q := 71) rfl (fun _ _ _ _ _ _ => rfl) rfl (by decide) rfl rfl rfl rfl rfl (Nat.le_of_ble_eq_true rfl) (d_recv atM0 (by decide) (by decide)) rfl (m_X7_fail (Nat.le_trans (by decide) hd)  g39) (fun g43 => ?_)
          refine y_aload_n (q := 72) rfl rfl rfl ?_
          refine y_dup (q := 73) rfl rfl ?_
          refine y_getI (q := 76) rfl rfl (by decide) atM0 rfl rfl ?_
          refine y_iconst (x := 1) (q := 77) rfl (by decide) rfl ?_
          refine y_isub (q := 78) rfl rfl ?_
          refine y_putI (q := 81) rfl rfl (by decide) atM0 rfl rfl rfl rfl (fun g44 => ?_)
          refine y_aload_n (q := 82) rfl rfl rfl ?_
          refine y_getI (q := 85) rfl rfl (by decide) atM0 rfl rfl ?_
          refine y_ne0 (q := 161) (q' := 88) rfl rfl rfl rfl (fun c45 => ?_) (fun c46 => ?_)
          · skip
            refine y_aload_n (q := 89) rfl rfl rfl ?_
            refine y_callV (I := .invokevirtual 209) (idx := 209) (KD := 1) (J := 145) (mj := mj135) (as := [.ref 0]) (r := []) (q := 92) rfl (fun _ _ _ _ _ _ => rfl) rfl (by decide) rfl rfl rfl rfl rfl (Nat.le_of_ble_eq_true rfl) (d_recv atM0 (by decide) (by decide)) rfl (m_X7_next (Nat.le_trans (by decide) hd)  g44) (fun g47 => ?_)
            refine y_goto (q := 161) rfl rfl ?_
            refine y_iload_n (q := 162) rfl rfl rfl ?_
            exact y_retI rfl (by decide) rfl rfl
          · skip
            refine y_iload_n (q := 162) rfl rfl rfl ?_
            exact y_retI rfl (by decide) rfl rfl
        · skip
          refine y_aload_n (q := 72) rfl rfl rfl ?_
          refine y_dup (q := 73) rfl rfl ?_
          refine y_getI (q := 76) rfl rfl (by decide) atM0 rfl rfl ?_
          refine y_iconst (x := 1) (q := 77) rfl (by decide) rfl ?_
          refine y_isub (q := 78) rfl rfl ?_
          refine y_putI (q := 81) rfl rfl (by decide) atM0 rfl rfl rfl rfl (fun g48 => ?_)
          refine y_aload_n (q := 82) rfl rfl rfl ?_
          refine y_getI (q := 85) rfl rfl (by decide) atM0 rfl rfl ?_
          refine y_ne0 (q := 161) (q' := 88) rfl rfl rfl rfl (fun c49 => ?_) (fun c50 => ?_)
          · skip
            refine y_aload_n (q := 89) rfl rfl rfl ?_
            refine y_callV (I := .invokevirtual 209) (idx := 209) (KD := 1) (J := 145) (mj := mj135) (as := [.ref 0]) (r := []) (q := 92) rfl (fun _ _ _ _ _ _ => rfl) rfl (by decide) rfl rfl rfl rfl rfl (Nat.le_of_ble_eq_true rfl) (d_recv atM0 (by decide) (by decide)) rfl (m_X7_next (Nat.le_trans (by decide) hd)  g48) (fun g51 => ?_)
            refine y_goto (q := 161) rfl rfl ?_
            refine y_iload_n (q := 162) rfl rfl rfl ?_
            exact y_retI rfl (by decide) rfl rfl
          · skip
            refine y_iload_n (q := 162) rfl rfl rfl ?_
            exact y_retI rfl (by decide) rfl rfl
  · skip
    refine y_aload_n (q := 12) rfl rfl rfl ?_
    refine y_callI (I := .invokevirtual 237) (idx := 237) (KD := 1) (J := 150) (mj := mj140) (as := [.ref 0]) (r := []) (q := 15) rfl (fun _ _ _ _ _ _ => rfl) rfl (by decide) rfl rfl rfl rfl rfl (Nat.le_of_ble_eq_true rfl) (d_recv atM0 (by decide) (by decide)) rfl (m_X7_opens (Nat.le_trans (by decide) hd)  h) (fun r52 g53 => ?_)
    refine y_eq0 (q := 161) (q' := 18) rfl rfl rfl rfl (fun c54 => ?_) (fun c55 => ?_)
    · skip
      refine y_iload_n (q := 162) rfl rfl rfl ?_
      exact y_retI rfl (by decide) rfl rfl
    · skip
      refine y_aload_n (q := 19) rfl rfl rfl ?_
      refine y_callI (I := .invokevirtual 245) (idx := 245) (KD := 1) (J := 152) (mj := mj142) (as := [.ref 0]) (r := []) (q := 22) rfl (fun _ _ _ _ _ _ => rfl) rfl (by decide) rfl rfl rfl rfl rfl (Nat.le_of_ble_eq_true rfl) (d_recv atM0 (by decide) (by decide)) rfl (m_X7_atom5 (Nat.le_trans (by decide) hd)  g53) (fun r56 g57 => ?_)
      refine y_ineg (q := 23) rfl rfl ?_
      refine y_istore_n (lo' := [some (.ref 0), some (.int (-r56))]) (q := 24) rfl (Nat.le_of_ble_eq_true rfl) rfl rfl ?_
      refine y_aload_n (q := 25) rfl rfl rfl ?_
      refine y_dup (q := 26) rfl rfl ?_
      refine y_getI (q := 29) rfl rfl (by decide) atM0 rfl rfl ?_
      refine y_iconst (x := 1) (q := 30) rfl (by decide) rfl ?_
      refine y_isub (q := 31) rfl rfl ?_
      refine y_putI (q := 34) rfl rfl (by decide) atM0 rfl rfl rfl rfl (fun g58 => ?_)
      refine y_goto (q := 161) rfl rfl ?_
      refine y_iload_n (q := 162) rfl rfl rfl ?_
      exact y_retI rfl (by decide) rfl rfl
def l_X7_term4_5  (k : Int32 → dH → Option (Int32 × dH)) : Nat → Int32 → dH → Option (Int32 × dH)
  | 0, _, _ => none
  | n + 1, v1, h => oP (f_X7_isSign 42 h) (fun r3 => if r3.toInt = 0 then (k v1 h) else (oV (f_X7_next  h) (fun g6 => oI (f_X7_atom4  g6) (fun r7 g8 => l_X7_term4_5  k n (v1 * r7) g8))))
theorem lz_X7_term4_5 {d : Nat} (hd : 11 ≤ d)  (k : Int32 → dH → Option (Int32 × dH)) (hk : ∀ (v1 : Int32) (h : dH), dY shM d mj149 dI (k v1 h) 28 [some (.ref 0), some (.int v1)] [] h) : ∀ (n : Nat) (v1 : Int32) (h : dH), dY shM d mj149 dI (l_X7_term4_5  k n v1 h) 5 [some (.ref 0), some (.int v1)] [] h
  | 0, _, _ => dY_none
  | n + 1, v1, h => by
    rw [l_X7_term4_5]
    refine y_aload_n (q := 6) rfl rfl rfl ?_
    refine y_bipush (x := 42) (q := 8) rfl (by decide) rfl ?_
    refine y_callP (I := .invokevirtual 234) (idx := 234) (KD := 1) (J := 149) (mj := mj139) (as := [.ref 0, .int 42]) (r := []) (q := 11) rfl (fun _ _ _ _ _ _ => rfl) rfl (by decide) rfl rfl rfl rfl rfl (Nat.le_of_ble_eq_true rfl) (d_recv atM0 (by decide) (by decide)) rfl (m_X7_isSign (Nat.le_trans (by decide) hd) 42 h) (fun r3 => ?_)
    refine y_eq0 (q := 28) (q' := 14) rfl rfl rfl rfl (fun c4 => ?_) (fun c5 => ?_)
    · skip
      exact hk v1  h
    · skip
      refine y_aload_n (q := 15) rfl rfl rfl ?_
      refine y_callV (I := .invokevirtual 209) (idx := 209) (KD := 1) (J := 145) (mj := mj135) (as := [.ref 0]) (r := []) (q := 18) rfl (fun _ _ _ _ _ _ => rfl) rfl (by decide) rfl rfl rfl rfl rfl (Nat.le_of_ble_eq_true rfl) (d_recv atM0 (by decide) (by decide)) rfl (m_X7_next (Nat.le_trans (by decide) hd)  h) (fun g6 => ?_)
      refine y_iload_n (q := 19) rfl rfl rfl ?_
      refine y_aload_n (q := 20) rfl rfl rfl ?_
      refine y_callI (I := .invokevirtual 267) (idx := 267) (KD := 1) (J := 158) (mj := mj148) (as := [.ref 0]) (r := [.int v1]) (q := 23) rfl (fun _ _ _ _ _ _ => rfl) rfl (by decide) rfl rfl rfl rfl rfl (Nat.le_of_ble_eq_true rfl) (d_recv atM0 (by decide) (by decide)) rfl (m_X7_atom4 (Nat.le_trans (by decide) hd)  g6) (fun r7 g8 => ?_)
      refine y_imul (q := 24) rfl rfl ?_
      refine y_istore_n (lo' := [some (.ref 0), some (.int (v1 * r7))]) (q := 25) rfl (Nat.le_of_ble_eq_true rfl) rfl rfl ?_
      refine y_goto (q := 5) rfl rfl ?_
      exact lz_X7_term4_5 hd  k hk n (v1 * r7) g8 
def f_X7_term4  (h : dH) : Option (Int32 × dH) := oI (f_X7_atom4  h) (fun r1 g2 => l_X7_term4_5   (fun v1_9 g10 => some (v1_9, g10)) fuel0 r1 g2)
theorem m_X7_term4 {d : Nat} (hd : 12 ≤ d)  (h : dH) : dX shM d 149 [.ref 0] dI (f_X7_term4  h) h := by
  obtain ⟨e, rfl⟩ : ∃ e, d = e + 1 := ⟨d - 1, by omega⟩
  have hd : 11 ≤ e := by omega
  refine dX_of (mj := mj149) (lo := [some (.ref 0), none]) rfl (Nat.le_of_ble_eq_true rfl) rfl ?_
  unfold f_X7_term4
  refine y_aload_n (q := 1) rfl rfl rfl ?_
  refine y_callI (I := .invokevirtual 267) (idx := 267) (KD := 1) (J := 158) (mj := mj148) (as := [.ref 0]) (r := []) (q := 4) rfl (fun _ _ _ _ _ _ => rfl) rfl (by decide) rfl rfl rfl rfl rfl (Nat.le_of_ble_eq_true rfl) (d_recv atM0 (by decide) (by decide)) rfl (m_X7_atom4 (Nat.le_trans (by decide) hd)  h) (fun r1 g2 => ?_)
  refine y_istore_n (lo' := [some (.ref 0), some (.int r1)]) (q := 5) rfl (Nat.le_of_ble_eq_true rfl) rfl rfl ?_
  refine lz_X7_term4_5 hd   _ (fun v1_9 g10 => ?_) fuel0 r1 g2 
  refine y_iload_n (q := 29) rfl rfl rfl ?_
  exact y_retI rfl (by decide) rfl rfl
def l_X7_added4_5  (k : Int32 → dH → Option (Int32 × dH)) : Nat → Int32 → dH → Option (Int32 × dH)
  | 0, _, _ => none
  | n + 1, v1, h => oP (f_X7_isSign 43 h) (fun r3 => if r3.toInt = 0 then (oP (f_X7_isSign 45 h) (fun r6 => if r6.toInt = 0 then (k v1 h) else (if (dlcmp (h 0 25).toInt64 43).toInt = 0 then (oV (f_X7_next  h) (fun g11 => oI (f_X7_term4  g11) (fun r12 g13 => l_X7_added4_5  k n (v1 + r12) g13))) else (oV (f_X7_next  h) (fun g14 => oI (f_X7_term4  g14) (fun r15 g16 => l_X7_added4_5  k n (v1 - r15) g16)))))) else (if (dlcmp (h 0 25).toInt64 43).toInt = 0 then (oV (f_X7_next  h) (fun g19 => oI (f_X7_term4  g19) (fun r20 g21 => l_X7_added4_5  k n (v1 + r20) g21))) else (oV (f_X7_next  h) (fun g22 => oI (f_X7_term4  g22) (fun r23 g24 => l_X7_added4_5  k n (v1 - r23) g24)))))
theorem lz_X7_added4_5 {d : Nat} (hd : 12 ≤ d)  (k : Int32 → dH → Option (Int32 × dH)) (hk : ∀ (v1 : Int32) (z2 : Option Value) (z3 : Option Value) (h : dH), dY shM d mj150 dI (k v1 h) 66 [some (.ref 0), some (.int v1), z2, z3] [] h) : ∀ (n : Nat) (v1 : Int32) (h : dH) (z2 : Option Value) (z3 : Option Value), dY shM d mj150 dI (l_X7_added4_5  k n v1 h) 5 [some (.ref 0), some (.int v1), z2, z3] [] h
  | 0, _, _, _, _ => dY_none
  | n + 1, v1, h, z2, z3 => by
    rw [l_X7_added4_5]
    refine y_aload_n (q := 6) rfl rfl rfl ?_
    refine y_bipush (x := 43) (q := 8) rfl (by decide) rfl ?_
    refine y_callP (I := .invokevirtual 234) (idx := 234) (KD := 1) (J := 149) (mj := mj139) (as := [.ref 0, .int 43]) (r := []) (q := 11) rfl (fun _ _ _ _ _ _ => rfl) rfl (by decide) rfl rfl rfl rfl rfl (Nat.le_of_ble_eq_true rfl) (d_recv atM0 (by decide) (by decide)) rfl (m_X7_isSign (Nat.le_trans (by decide) hd) 43 h) (fun r3 => ?_)
    refine y_ne0 (q := 23) (q' := 14) rfl rfl rfl rfl (fun c4 => ?_) (fun c5 => ?_)
    · skip
      refine y_aload_n (q := 15) rfl rfl rfl ?_
      refine y_bipush (x := 45) (q := 17) rfl (by decide) rfl ?_
      refine y_callP (I := .invokevirtual 234) (idx := 234) (KD := 1) (J := 149) (mj := mj139) (as := [.ref 0, .int 45]) (r := []) (q := 20) rfl (fun _ _ _ _ _ _ => rfl) rfl (by decide) rfl rfl rfl rfl rfl (Nat.le_of_ble_eq_true rfl) (d_recv atM0 (by decide) (by decide)) rfl (m_X7_isSign (Nat.le_trans (by decide) hd) 45 h) (fun r6 => ?_)
      refine y_eq0 (q := 66) (q' := 23) rfl rfl rfl rfl (fun c7 => ?_) (fun c8 => ?_)
      · skip
        exact hk v1 (z2) (z3) h
      · skip
        refine y_aload_n (q := 24) rfl rfl rfl ?_
        refine y_getL (q := 27) rfl rfl (by decide) atM0 rfl rfl ?_
        refine y_ldc2_w (u := 43) (q := 30) rfl rfl rfl ?_
        refine y_lcmp (q := 31) rfl rfl ?_
        refine y_ne0 (q := 38) (q' := 34) rfl rfl rfl rfl (fun c9 => ?_) (fun c10 => ?_)
        · skip
          refine y_iconst (x := 1) (q := 35) rfl (by decide) rfl ?_
          refine y_goto (q := 39) rfl rfl ?_
          refine y_istore_n (lo' := [some (.ref 0), some (.int v1), some (.int 1), z3]) (q := 40) rfl (Nat.le_of_ble_eq_true rfl) rfl rfl ?_
          refine y_aload_n (q := 41) rfl rfl rfl ?_
          refine y_callV (I := .invokevirtual 209) (idx := 209) (KD := 1) (J := 145) (mj := mj135) (as := [.ref 0]) (r := []) (q := 44) rfl (fun _ _ _ _ _ _ => rfl) rfl (by decide) rfl rfl rfl rfl rfl (Nat.le_of_ble_eq_true rfl) (d_recv atM0 (by decide) (by decide)) rfl (m_X7_next (Nat.le_trans (by decide) hd)  h) (fun g11 => ?_)
          refine y_aload_n (q := 45) rfl rfl rfl ?_
          refine y_callI (I := .invokevirtual 270) (idx := 270) (KD := 1) (J := 159) (mj := mj149) (as := [.ref 0]) (r := []) (q := 48) rfl (fun _ _ _ _ _ _ => rfl) rfl (by decide) rfl rfl rfl rfl rfl (Nat.le_of_ble_eq_true rfl) (d_recv atM0 (by decide) (by decide)) rfl (m_X7_term4 (Nat.le_trans (by decide) hd)  g11) (fun r12 g13 => ?_)
          refine y_istore_n (lo' := [some (.ref 0), some (.int v1), some (.int 1), some (.int r12)]) (q := 49) rfl (Nat.le_of_ble_eq_true rfl) rfl rfl ?_
          refine y_iload_n (q := 50) rfl rfl rfl ?_
          refine y_ifF (q := 53) rfl (by decide) rfl rfl ?_
          refine y_iload_n (q := 54) rfl rfl rfl ?_
          refine y_iload_n (q := 55) rfl rfl rfl ?_
          refine y_iadd (q := 56) rfl rfl ?_
          refine y_goto (q := 62) rfl rfl ?_
          refine y_istore_n (lo' := [some (.ref 0), some (.int (v1 + r12)), some (.int 1), some (.int r12)]) (q := 63) rfl (Nat.le_of_ble_eq_true rfl) rfl rfl ?_
          refine y_goto (q := 5) rfl rfl ?_
          exact lz_X7_added4_5 hd  k hk n (v1 + r12) g13 (some (.int 1)) (some (.int r12))
        · skip
          refine y_iconst (x := 0) (q := 39) rfl (by decide) rfl ?_
          refine y_istore_n (lo' := [some (.ref 0), some (.int v1), some (.int 0), z3]) (q := 40) rfl (Nat.le_of_ble_eq_true rfl) rfl rfl ?_
          refine y_aload_n (q := 41) rfl rfl rfl ?_
          refine y_callV (I := .invokevirtual 209) (idx := 209) (KD := 1) (J := 145) (mj := mj135) (as := [.ref 0]) (r := []) (q := 44) rfl (fun _ _ _ _ _ _ => rfl) rfl (by decide) rfl rfl rfl rfl rfl (Nat.le_of_ble_eq_true rfl) (d_recv atM0 (by decide) (by decide)) rfl (m_X7_next (Nat.le_trans (by decide) hd)  h) (fun g14 => ?_)
          refine y_aload_n (q := 45) rfl rfl rfl ?_
          refine y_callI (I := .invokevirtual 270) (idx := 270) (KD := 1) (J := 159) (mj := mj149) (as := [.ref 0]) (r := []) (q := 48) rfl (fun _ _ _ _ _ _ => rfl) rfl (by decide) rfl rfl rfl rfl rfl (Nat.le_of_ble_eq_true rfl) (d_recv atM0 (by decide) (by decide)) rfl (m_X7_term4 (Nat.le_trans (by decide) hd)  g14) (fun r15 g16 => ?_)
          refine y_istore_n (lo' := [some (.ref 0), some (.int v1), some (.int 0), some (.int r15)]) (q := 49) rfl (Nat.le_of_ble_eq_true rfl) rfl rfl ?_
          refine y_iload_n (q := 50) rfl rfl rfl ?_
          refine y_ifT (q := 59) rfl (by decide) rfl ?_
          refine y_iload_n (q := 60) rfl rfl rfl ?_
          refine y_iload_n (q := 61) rfl rfl rfl ?_
          refine y_isub (q := 62) rfl rfl ?_
          refine y_istore_n (lo' := [some (.ref 0), some (.int (v1 - r15)), some (.int 0), some (.int r15)]) (q := 63) rfl (Nat.le_of_ble_eq_true rfl) rfl rfl ?_
          refine y_goto (q := 5) rfl rfl ?_
          exact lz_X7_added4_5 hd  k hk n (v1 - r15) g16 (some (.int 0)) (some (.int r15))
    · skip
      refine y_aload_n (q := 24) rfl rfl rfl ?_
      refine y_getL (q := 27) rfl rfl (by decide) atM0 rfl rfl ?_
      refine y_ldc2_w (u := 43) (q := 30) rfl rfl rfl ?_
      refine y_lcmp (q := 31) rfl rfl ?_
      refine y_ne0 (q := 38) (q' := 34) rfl rfl rfl rfl (fun c17 => ?_) (fun c18 => ?_)
      · skip
        refine y_iconst (x := 1) (q := 35) rfl (by decide) rfl ?_
        refine y_goto (q := 39) rfl rfl ?_
        refine y_istore_n (lo' := [some (.ref 0), some (.int v1), some (.int 1), z3]) (q := 40) rfl (Nat.le_of_ble_eq_true rfl) rfl rfl ?_
        refine y_aload_n (q := 41) rfl rfl rfl ?_
        refine y_callV (I := .invokevirtual 209) (idx := 209) (KD := 1) (J := 145) (mj := mj135) (as := [.ref 0]) (r := []) (q := 44) rfl (fun _ _ _ _ _ _ => rfl) rfl (by decide) rfl rfl rfl rfl rfl (Nat.le_of_ble_eq_true rfl) (d_recv atM0 (by decide) (by decide)) rfl (m_X7_next (Nat.le_trans (by decide) hd)  h) (fun g19 => ?_)
        refine y_aload_n (q := 45) rfl rfl rfl ?_
        refine y_callI (I := .invokevirtual 270) (idx := 270) (KD := 1) (J := 159) (mj := mj149) (as := [.ref 0]) (r := []) (q := 48) rfl (fun _ _ _ _ _ _ => rfl) rfl (by decide) rfl rfl rfl rfl rfl (Nat.le_of_ble_eq_true rfl) (d_recv atM0 (by decide) (by decide)) rfl (m_X7_term4 (Nat.le_trans (by decide) hd)  g19) (fun r20 g21 => ?_)
        refine y_istore_n (lo' := [some (.ref 0), some (.int v1), some (.int 1), some (.int r20)]) (q := 49) rfl (Nat.le_of_ble_eq_true rfl) rfl rfl ?_
        refine y_iload_n (q := 50) rfl rfl rfl ?_
        refine y_ifF (q := 53) rfl (by decide) rfl rfl ?_
        refine y_iload_n (q := 54) rfl rfl rfl ?_
        refine y_iload_n (q := 55) rfl rfl rfl ?_
        refine y_iadd (q := 56) rfl rfl ?_
        refine y_goto (q := 62) rfl rfl ?_
        refine y_istore_n (lo' := [some (.ref 0), some (.int (v1 + r20)), some (.int 1), some (.int r20)]) (q := 63) rfl (Nat.le_of_ble_eq_true rfl) rfl rfl ?_
        refine y_goto (q := 5) rfl rfl ?_
        exact lz_X7_added4_5 hd  k hk n (v1 + r20) g21 (some (.int 1)) (some (.int r20))
      · skip
        refine y_iconst (x := 0) (q := 39) rfl (by decide) rfl ?_
        refine y_istore_n (lo' := [some (.ref 0), some (.int v1), some (.int 0), z3]) (q := 40) rfl (Nat.le_of_ble_eq_true rfl) rfl rfl ?_
        refine y_aload_n (q := 41) rfl rfl rfl ?_
        refine y_callV (I := .invokevirtual 209) (idx := 209) (KD := 1) (J := 145) (mj := mj135) (as := [.ref 0]) (r := []) (q := 44) rfl (fun _ _ _ _ _ _ => rfl) rfl (by decide) rfl rfl rfl rfl rfl (Nat.le_of_ble_eq_true rfl) (d_recv atM0 (by decide) (by decide)) rfl (m_X7_next (Nat.le_trans (by decide) hd)  h) (fun g22 => ?_)
        refine y_aload_n (q := 45) rfl rfl rfl ?_
        refine y_callI (I := .invokevirtual 270) (idx := 270) (KD := 1) (J := 159) (mj := mj149) (as := [.ref 0]) (r := []) (q := 48) rfl (fun _ _ _ _ _ _ => rfl) rfl (by decide) rfl rfl rfl rfl rfl (Nat.le_of_ble_eq_true rfl) (d_recv atM0 (by decide) (by decide)) rfl (m_X7_term4 (Nat.le_trans (by decide) hd)  g22) (fun r23 g24 => ?_)
        refine y_istore_n (lo' := [some (.ref 0), some (.int v1), some (.int 0), some (.int r23)]) (q := 49) rfl (Nat.le_of_ble_eq_true rfl) rfl rfl ?_
        refine y_iload_n (q := 50) rfl rfl rfl ?_
        refine y_ifT (q := 59) rfl (by decide) rfl ?_
        refine y_iload_n (q := 60) rfl rfl rfl ?_
        refine y_iload_n (q := 61) rfl rfl rfl ?_
        refine y_isub (q := 62) rfl rfl ?_
        refine y_istore_n (lo' := [some (.ref 0), some (.int (v1 - r23)), some (.int 0), some (.int r23)]) (q := 63) rfl (Nat.le_of_ble_eq_true rfl) rfl rfl ?_
        refine y_goto (q := 5) rfl rfl ?_
        exact lz_X7_added4_5 hd  k hk n (v1 - r23) g24 (some (.int 0)) (some (.int r23))
def f_X7_added4  (h : dH) : Option (Int32 × dH) := oI (f_X7_term4  h) (fun r1 g2 => l_X7_added4_5   (fun v1_25 g28 => some (v1_25, g28)) fuel0 r1 g2)
theorem m_X7_added4 {d : Nat} (hd : 13 ≤ d)  (h : dH) : dX shM d 150 [.ref 0] dI (f_X7_added4  h) h := by
  obtain ⟨e, rfl⟩ : ∃ e, d = e + 1 := ⟨d - 1, by omega⟩
  have hd : 12 ≤ e := by omega
  refine dX_of (mj := mj150) (lo := [some (.ref 0), none, none, none]) rfl (Nat.le_of_ble_eq_true rfl) rfl ?_
  unfold f_X7_added4
  refine y_aload_n (q := 1) rfl rfl rfl ?_
  refine y_callI (I := .invokevirtual 270) (idx := 270) (KD := 1) (J := 159) (mj := mj149) (as := [.ref 0]) (r := []) (q := 4) rfl (fun _ _ _ _ _ _ => rfl) rfl (by decide) rfl rfl rfl rfl rfl (Nat.le_of_ble_eq_true rfl) (d_recv atM0 (by decide) (by decide)) rfl (m_X7_term4 (Nat.le_trans (by decide) hd)  h) (fun r1 g2 => ?_)
  refine y_istore_n (lo' := [some (.ref 0), some (.int r1), none, none]) (q := 5) rfl (Nat.le_of_ble_eq_true rfl) rfl rfl ?_
  refine lz_X7_added4_5 hd   _ (fun v1_25 z26 z27 g28 => ?_) fuel0 r1 g2 (none) (none)
  refine y_iload_n (q := 67) rfl rfl rfl ?_
  exact y_retI rfl (by decide) rfl rfl
def f_X7_not4  (h : dH) : Option (Int32 × dH) := oP (f_X7_isWord 110 111 116 0 0 0 0 0 h) (fun r1 => if r1.toInt = 0 then (oI (f_X7_added4  h) (fun r4 g5 => oP (f_X7_isSign 60 g5) (fun r6 => if r6.toInt = 0 then (oP (f_X7_isSign 61 g5) (fun r9 => if r9.toInt = 0 then (some (r4, g5)) else (if (dlcmp (g5 0 25).toInt64 60).toInt = 0 then (oV (f_X7_next  g5) (fun g14 => oI (f_X7_added4  g14) (fun r15 g16 => if r4.toInt < r15.toInt then (some (1, g16)) else (some (0, g16))))) else (oV (f_X7_next  g5) (fun g19 => oI (f_X7_added4  g19) (fun r20 g21 => if r4.toInt = r20.toInt then (some (1, g21)) else (some (0, g21)))))))) else (if (dlcmp (g5 0 25).toInt64 60).toInt = 0 then (oV (f_X7_next  g5) (fun g26 => oI (f_X7_added4  g26) (fun r27 g28 => if r4.toInt < r27.toInt then (some (1, g28)) else (some (0, g28))))) else (oV (f_X7_next  g5) (fun g31 => oI (f_X7_added4  g31) (fun r32 g33 => if r4.toInt = r32.toInt then (some (1, g33)) else (some (0, g33))))))))) else (oI (f_X7_opens  h) (fun r36 g37 => if r36.toInt = 0 then (some (0, g37)) else (oI (f_X7_not5  g37) (fun r40 g41 => oH (dU g41 0 26 ((g41 0 26) - 1)) (fun g42 => if r40.toInt = 0 then (some (1, g42)) else (some (0, g42))))))))
theorem m_X7_not4 {d : Nat} (hd : 14 ≤ d)  (h : dH) : dX shM d 151 [.ref 0] dI (f_X7_not4  h) h := by
  obtain ⟨e, rfl⟩ : ∃ e, d = e + 1 := ⟨d - 1, by omega⟩
  have hd : 13 ≤ e := by omega
  refine dX_of (mj := mj151) (lo := [some (.ref 0), none, none, none]) rfl (Nat.le_of_ble_eq_true rfl) rfl ?_
  unfold f_X7_not4
  refine y_aload_n (q := 1) rfl rfl rfl ?_
  refine y_bipush (x := 110) (q := 3) rfl (by decide) rfl ?_
  refine y_bipush (x := 111) (q := 5) rfl (by decide) rfl ?_
  refine y_bipush (x := 116) (q := 7) rfl (by decide) rfl ?_
  refine y_iconst (x := 0) (q := 8) rfl (by decide) rfl ?_
  refine y_iconst (x := 0) (q := 9) rfl (by decide) rfl ?_
  refine y_iconst (x := 0) (q := 10) rfl (by decide) rfl ?_
  refine y_iconst (x := 0) (q := 11) rfl (by decide) rfl ?_
  refine y_iconst (x := 0) (q := 12) rfl (by decide) rfl ?_
  refine y_callP (I := .invokevirtual 212) (idx := 212) (KD := 1) (J := 148) (mj := mj138) (as := [.ref 0, .int 110, .int 111, .int 116, .int 0, .int 0, .int 0, .int 0, .int 0]) (r := []) (q := 15) rfl (fun _ _ _ _ _ _ => rfl) rfl (by decide) rfl rfl rfl rfl rfl (Nat.le_of_ble_eq_true rfl) (d_recv atM0 (by decide) (by decide)) rfl (m_X7_isWord (Nat.le_trans (by decide) hd) 110 111 116 0 0 0 0 0 h) (fun r1 => ?_)
  refine y_eq0 (q := 52) (q' := 18) rfl rfl rfl rfl (fun c2 => ?_) (fun c3 => ?_)
  · skip
    refine y_aload_n (q := 53) rfl rfl rfl ?_
    refine y_callI (I := .invokevirtual 273) (idx := 273) (KD := 1) (J := 160) (mj := mj150) (as := [.ref 0]) (r := []) (q := 56) rfl (fun _ _ _ _ _ _ => rfl) rfl (by decide) rfl rfl rfl rfl rfl (Nat.le_of_ble_eq_true rfl) (d_recv atM0 (by decide) (by decide)) rfl (m_X7_added4 (Nat.le_trans (by decide) hd)  h) (fun r4 g5 => ?_)
    refine y_istore_n (lo' := [some (.ref 0), some (.int r4), none, none]) (q := 57) rfl (Nat.le_of_ble_eq_true rfl) rfl rfl ?_
    refine y_aload_n (q := 58) rfl rfl rfl ?_
    refine y_bipush (x := 60) (q := 60) rfl (by decide) rfl ?_
    refine y_callP (I := .invokevirtual 234) (idx := 234) (KD := 1) (J := 149) (mj := mj139) (as := [.ref 0, .int 60]) (r := []) (q := 63) rfl (fun _ _ _ _ _ _ => rfl) rfl (by decide) rfl rfl rfl rfl rfl (Nat.le_of_ble_eq_true rfl) (d_recv atM0 (by decide) (by decide)) rfl (m_X7_isSign (Nat.le_trans (by decide) hd) 60 g5) (fun r6 => ?_)
    refine y_ne0 (q := 77) (q' := 66) rfl rfl rfl rfl (fun c7 => ?_) (fun c8 => ?_)
    · skip
      refine y_aload_n (q := 67) rfl rfl rfl ?_
      refine y_bipush (x := 61) (q := 69) rfl (by decide) rfl ?_
      refine y_callP (I := .invokevirtual 234) (idx := 234) (KD := 1) (J := 149) (mj := mj139) (as := [.ref 0, .int 61]) (r := []) (q := 72) rfl (fun _ _ _ _ _ _ => rfl) rfl (by decide) rfl rfl rfl rfl rfl (Nat.le_of_ble_eq_true rfl) (d_recv atM0 (by decide) (by decide)) rfl (m_X7_isSign (Nat.le_trans (by decide) hd) 61 g5) (fun r9 => ?_)
      refine y_ne0 (q := 77) (q' := 75) rfl rfl rfl rfl (fun c10 => ?_) (fun c11 => ?_)
      · skip
        refine y_iload_n (q := 76) rfl rfl rfl ?_
        exact y_retI rfl (by decide) rfl rfl
      · skip
        refine y_aload_n (q := 78) rfl rfl rfl ?_
        refine y_getL (q := 81) rfl rfl (by decide) atM0 rfl rfl ?_
        refine y_ldc2_w (u := 60) (q := 84) rfl rfl rfl ?_
        refine y_lcmp (q := 85) rfl rfl ?_
        refine y_ne0 (q := 92) (q' := 88) rfl rfl rfl rfl (fun c12 => ?_) (fun c13 => ?_)
        · skip
          refine y_iconst (x := 1) (q := 89) rfl (by decide) rfl ?_
          refine y_goto (q := 93) rfl rfl ?_
          refine y_istore_n (lo' := [some (.ref 0), some (.int r4), some (.int 1), none]) (q := 94) rfl (Nat.le_of_ble_eq_true rfl) rfl rfl ?_
          refine y_aload_n (q := 95) rfl rfl rfl ?_
          refine y_callV (I := .invokevirtual 209) (idx := 209) (KD := 1) (J := 145) (mj := mj135) (as := [.ref 0]) (r := []) (q := 98) rfl (fun _ _ _ _ _ _ => rfl) rfl (by decide) rfl rfl rfl rfl rfl (Nat.le_of_ble_eq_true rfl) (d_recv atM0 (by decide) (by decide)) rfl (m_X7_next (Nat.le_trans (by decide) hd)  g5) (fun g14 => ?_)
          refine y_aload_n (q := 99) rfl rfl rfl ?_
          refine y_callI (I := .invokevirtual 273) (idx := 273) (KD := 1) (J := 160) (mj := mj150) (as := [.ref 0]) (r := []) (q := 102) rfl (fun _ _ _ _ _ _ => rfl) rfl (by decide) rfl rfl rfl rfl rfl (Nat.le_of_ble_eq_true rfl) (d_recv atM0 (by decide) (by decide)) rfl (m_X7_added4 (Nat.le_trans (by decide) hd)  g14) (fun r15 g16 => ?_)
          refine y_istore_n (lo' := [some (.ref 0), some (.int r4), some (.int 1), some (.int r15)]) (q := 103) rfl (Nat.le_of_ble_eq_true rfl) rfl rfl ?_
          refine y_iload_n (q := 104) rfl rfl rfl ?_
          refine y_ifF (q := 107) rfl (by decide) rfl rfl ?_
          refine y_iload_n (q := 108) rfl rfl rfl ?_
          refine y_iload_n (q := 109) rfl rfl rfl ?_
          refine y_ge (q := 124) (q' := 112) rfl rfl rfl rfl rfl (fun c17 => ?_) (fun c18 => ?_)
          · skip
            refine y_goto (q := 120) rfl rfl ?_
            refine y_iconst (x := 1) (q := 121) rfl (by decide) rfl ?_
            refine y_goto (q := 125) rfl rfl ?_
            exact y_retI rfl (by decide) rfl rfl
          · skip
            refine y_iconst (x := 0) (q := 125) rfl (by decide) rfl ?_
            exact y_retI rfl (by decide) rfl rfl
        · skip
          refine y_iconst (x := 0) (q := 93) rfl (by decide) rfl ?_
          refine y_istore_n (lo' := [some (.ref 0), some (.int r4), some (.int 0), none]) (q := 94) rfl (Nat.le_of_ble_eq_true rfl) rfl rfl ?_
          refine y_aload_n (q := 95) rfl rfl rfl ?_
          refine y_callV (I := .invokevirtual 209) (idx := 209) (KD := 1) (J := 145) (mj := mj135) (as := [.ref 0]) (r := []) (q := 98) rfl (fun _ _ _ _ _ _ => rfl) rfl (by decide) rfl rfl rfl rfl rfl (Nat.le_of_ble_eq_true rfl) (d_recv atM0 (by decide) (by decide)) rfl (m_X7_next (Nat.le_trans (by decide) hd)  g5) (fun g19 => ?_)
          refine y_aload_n (q := 99) rfl rfl rfl ?_
          refine y_callI (I := .invokevirtual 273) (idx := 273) (KD := 1) (J := 160) (mj := mj150) (as := [.ref 0]) (r := []) (q := 102) rfl (fun _ _ _ _ _ _ => rfl) rfl (by decide) rfl rfl rfl rfl rfl (Nat.le_of_ble_eq_true rfl) (d_recv atM0 (by decide) (by decide)) rfl (m_X7_added4 (Nat.le_trans (by decide) hd)  g19) (fun r20 g21 => ?_)
          refine y_istore_n (lo' := [some (.ref 0), some (.int r4), some (.int 0), some (.int r20)]) (q := 103) rfl (Nat.le_of_ble_eq_true rfl) rfl rfl ?_
          refine y_iload_n (q := 104) rfl rfl rfl ?_
          refine y_ifT (q := 115) rfl (by decide) rfl ?_
          refine y_iload_n (q := 116) rfl rfl rfl ?_
          refine y_iload_n (q := 117) rfl rfl rfl ?_
          refine y_ne (q := 124) (q' := 120) rfl rfl rfl rfl rfl (fun c22 => ?_) (fun c23 => ?_)
          · skip
            refine y_iconst (x := 1) (q := 121) rfl (by decide) rfl ?_
            refine y_goto (q := 125) rfl rfl ?_
            exact y_retI rfl (by decide) rfl rfl
          · skip
            refine y_iconst (x := 0) (q := 125) rfl (by decide) rfl ?_
            exact y_retI rfl (by decide) rfl rfl
    · skip
      refine y_aload_n (q := 78) rfl rfl rfl ?_
      refine y_getL (q := 81) rfl rfl (by decide) atM0 rfl rfl ?_
      refine y_ldc2_w (u := 60) (q := 84) rfl rfl rfl ?_
      refine y_lcmp (q := 85) rfl rfl ?_
      refine y_ne0 (q := 92) (q' := 88) rfl rfl rfl rfl (fun c24 => ?_) (fun c25 => ?_)
      · skip
        refine y_iconst (x := 1) (q := 89) rfl (by decide) rfl ?_
        refine y_goto (q := 93) rfl rfl ?_
        refine y_istore_n (lo' := [some (.ref 0), some (.int r4), some (.int 1), none]) (q := 94) rfl (Nat.le_of_ble_eq_true rfl) rfl rfl ?_
        refine y_aload_n (q := 95) rfl rfl rfl ?_
        refine y_callV (I := .invokevirtual 209) (idx := 209) (KD := 1) (J := 145) (mj := mj135) (as := [.ref 0]) (r := []) (q := 98) rfl (fun _ _ _ _ _ _ => rfl) rfl (by decide) rfl rfl rfl rfl rfl (Nat.le_of_ble_eq_true rfl) (d_recv atM0 (by decide) (by decide)) rfl (m_X7_next (Nat.le_trans (by decide) hd)  g5) (fun g26 => ?_)
        refine y_aload_n (q := 99) rfl rfl rfl ?_
        refine y_callI (I := .invokevirtual 273) (idx := 273) (KD := 1) (J := 160) (mj := mj150) (as := [.ref 0]) (r := []) (q := 102) rfl (fun _ _ _ _ _ _ => rfl) rfl (by decide) rfl rfl rfl rfl rfl (Nat.le_of_ble_eq_true rfl) (d_recv atM0 (by decide) (by decide)) rfl (m_X7_added4 (Nat.le_trans (by decide) hd)  g26) (fun r27 g28 => ?_)
        refine y_istore_n (lo' := [some (.ref 0), some (.int r4), some (.int 1), some (.int r27)]) (q := 103) rfl (Nat.le_of_ble_eq_true rfl) rfl rfl ?_
        refine y_iload_n (q := 104) rfl rfl rfl ?_
        refine y_ifF (q := 107) rfl (by decide) rfl rfl ?_
        refine y_iload_n (q := 108) rfl rfl rfl ?_
        refine y_iload_n (q := 109) rfl rfl rfl ?_
        refine y_ge (q := 124) (q' := 112) rfl rfl rfl rfl rfl (fun c29 => ?_) (fun c30 => ?_)
        · skip
          refine y_goto (q := 120) rfl rfl ?_
          refine y_iconst (x := 1) (q := 121) rfl (by decide) rfl ?_
          refine y_goto (q := 125) rfl rfl ?_
          exact y_retI rfl (by decide) rfl rfl
        · skip
          refine y_iconst (x := 0) (q := 125) rfl (by decide) rfl ?_
          exact y_retI rfl (by decide) rfl rfl
      · skip
        refine y_iconst (x := 0) (q := 93) rfl (by decide) rfl ?_
        refine y_istore_n (lo' := [some (.ref 0), some (.int r4), some (.int 0), none]) (q := 94) rfl (Nat.le_of_ble_eq_true rfl) rfl rfl ?_
        refine y_aload_n (q := 95) rfl rfl rfl ?_
        refine y_callV (I := .invokevirtual 209) (idx := 209) (KD := 1) (J := 145) (mj := mj135) (as := [.ref 0]) (r := []) (q := 98) rfl (fun _ _ _ _ _ _ => rfl) rfl (by decide) rfl rfl rfl rfl rfl (Nat.le_of_ble_eq_true rfl) (d_recv atM0 (by decide) (by decide)) rfl (m_X7_next (Nat.le_trans (by decide) hd)  g5) (fun g31 => ?_)
        refine y_aload_n (q := 99) rfl rfl rfl ?_
        refine y_callI (I := .invokevirtual 273) (idx := 273) (KD := 1) (J := 160) (mj := mj150) (as := [.ref 0]) (r := []) (q := 102) rfl (fun _ _ _ _ _ _ => rfl) rfl (by decide) rfl rfl rfl rfl rfl (Nat.le_of_ble_eq_true rfl) (d_recv atM0 (by decide) (by decide)) rfl (m_X7_added4 (Nat.le_trans (by decide) hd)  g31) (fun r32 g33 => ?_)
        refine y_istore_n (lo' := [some (.ref 0), some (.int r4), some (.int 0), some (.int r32)]) (q := 103) rfl (Nat.le_of_ble_eq_true rfl) rfl rfl ?_
        refine y_iload_n (q := 104) rfl rfl rfl ?_
        refine y_ifT (q := 115) rfl (by decide) rfl ?_
        refine y_iload_n (q := 116) rfl rfl rfl ?_
        refine y_iload_n (q := 117) rfl rfl rfl ?_
        refine y_ne (q := 124) (q' := 120) rfl rfl rfl rfl rfl (fun c34 => ?_) (fun c35 => ?_)
        · skip
          refine y_iconst (x := 1) (q := 121) rfl (by decide) rfl ?_
          refine y_goto (q := 125) rfl rfl ?_
          exact y_retI rfl (by decide) rfl rfl
        · skip
          refine y_iconst (x := 0) (q := 125) rfl (by decide) rfl ?_
          exact y_retI rfl (by decide) rfl rfl
  · skip
    refine y_aload_n (q := 19) rfl rfl rfl ?_
    refine y_callI (I := .invokevirtual 237) (idx := 237) (KD := 1) (J := 150) (mj := mj140) (as := [.ref 0]) (r := []) (q := 22) rfl (fun _ _ _ _ _ _ => rfl) rfl (by decide) rfl rfl rfl rfl rfl (Nat.le_of_ble_eq_true rfl) (d_recv atM0 (by decide) (by decide)) rfl (m_X7_opens (Nat.le_trans (by decide) hd)  h) (fun r36 g37 => ?_)
    refine y_ne0 (q := 27) (q' := 25) rfl rfl rfl rfl (fun c38 => ?_) (fun c39 => ?_)
    · skip
      refine y_iconst (x := 0) (q := 26) rfl (by decide) rfl ?_
      exact y_retI rfl (by decide) rfl rfl
    · skip
      refine y_aload_n (q := 28) rfl rfl rfl ?_
      refine y_callI (I := .invokevirtual 258) (idx := 258) (KD := 1) (J := 155) (mj := mj145) (as := [.ref 0]) (r := []) (q := 31) rfl (fun _ _ _ _ _ _ => rfl) rfl (by decide) rfl rfl rfl rfl rfl (Nat.le_of_ble_eq_true rfl) (d_recv atM0 (by decide) (by decide)) rfl (m_X7_not5 (Nat.le_trans (by decide) hd)  g37) (fun r40 g41 => ?_)
      refine y_istore_n (lo' := [some (.ref 0), some (.int r40), none, none]) (q := 32) rfl (Nat.le_of_ble_eq_true rfl) rfl rfl ?_
      refine y_aload_n (q := 33) rfl rfl rfl ?_
      refine y_dup (q := 34) rfl rfl ?_
      refine y_getI (q := 37) rfl rfl (by decide) atM0 rfl rfl ?_
      refine y_iconst (x := 1) (q := 38) rfl (by decide) rfl ?_
      refine y_isub (q := 39) rfl rfl ?_
      refine y_putI (q := 42) rfl rfl (by decide) atM0 rfl rfl rfl rfl (fun g42 => ?_)
      refine y_iload_n (q := 43) rfl rfl rfl ?_
      refine y_ne0 (q := 50) (q' := 46) rfl rfl rfl rfl (fun c43 => ?_) (fun c44 => ?_)
      · skip
        refine y_iconst (x := 1) (q := 47) rfl (by decide) rfl ?_
        refine y_goto (q := 51) rfl rfl ?_
        exact y_retI rfl (by decide) rfl rfl
      · skip
        refine y_iconst (x := 0) (q := 51) rfl (by decide) rfl ?_
        exact y_retI rfl (by decide) rfl rfl
def l_X7_both4_5  (k : Int32 → dH → Option (Int32 × dH)) : Nat → Int32 → dH → Option (Int32 × dH)
  | 0, _, _ => none
  | n + 1, v1, h => oP (f_X7_isWord 97 110 100 0 0 0 0 0 h) (fun r3 => if r3.toInt = 0 then (k v1 h) else (oV (f_X7_next  h) (fun g6 => oI (f_X7_not4  g6) (fun r7 g8 => if v1.toInt = 0 then (l_X7_both4_5  k n 0 g8) else (if r7.toInt = 0 then (l_X7_both4_5  k n 0 g8) else (l_X7_both4_5  k n 1 g8))))))
theorem lz_X7_both4_5 {d : Nat} (hd : 14 ≤ d)  (k : Int32 → dH → Option (Int32 × dH)) (hk : ∀ (v1 : Int32) (z2 : Option Value) (h : dH), dY shM d mj152 dI (k v1 h) 49 [some (.ref 0), some (.int v1), z2] [] h) : ∀ (n : Nat) (v1 : Int32) (h : dH) (z2 : Option Value), dY shM d mj152 dI (l_X7_both4_5  k n v1 h) 5 [some (.ref 0), some (.int v1), z2] [] h
  | 0, _, _, _ => dY_none
  | n + 1, v1, h, z2 => by
    rw [l_X7_both4_5]
    refine y_aload_n (q := 6) rfl rfl rfl ?_
    refine y_bipush (x := 97) (q := 8) rfl (by decide) rfl ?_
    refine y_bipush (x := 110) (q := 10) rfl (by decide) rfl ?_
    refine y_bipush (x := 100) (q := 12) rfl (by decide) rfl ?_
    refine y_iconst (x := 0) (q := 13) rfl (by decide) rfl ?_
    refine y_iconst (x := 0) (q := 14) rfl (by decide) rfl ?_
    refine y_iconst (x := 0) (q := 15) rfl (by decide) rfl ?_
    refine y_iconst (x := 0) (q := 16) rfl (by decide) rfl ?_
    refine y_iconst (x := 0) (q := 17) rfl (by decide) rfl ?_
    refine y_callP (I := .invokevirtual 212) (idx := 212) (KD := 1) (J := 148) (mj := mj138) (as := [.ref 0, .int 97, .int 110, .int 100, .int 0, .int 0, .int 0, .int 0, .int 0]) (r := []) (q := 20) rfl (fun _ _ _ _ _ _ => rfl) rfl (by decide) rfl rfl rfl rfl rfl (Nat.le_of_ble_eq_true rfl) (d_recv atM0 (by decide) (by decide)) rfl (m_X7_isWord (Nat.le_trans (by decide) hd) 97 110 100 0 0 0 0 0 h) (fun r3 => ?_)
    refine y_eq0 (q := 49) (q' := 23) rfl rfl rfl rfl (fun c4 => ?_) (fun c5 => ?_)
    · skip
      exact hk v1 (z2) h
    · skip
      refine y_aload_n (q := 24) rfl rfl rfl ?_
      refine y_callV (I := .invokevirtual 209) (idx := 209) (KD := 1) (J := 145) (mj := mj135) (as := [.ref 0]) (r := []) (q := 27) rfl (fun _ _ _ _ _ _ => rfl) rfl (by decide) rfl rfl rfl rfl rfl (Nat.le_of_ble_eq_true rfl) (d_recv atM0 (by decide) (by decide)) rfl (m_X7_next (Nat.le_trans (by decide) hd)  h) (fun g6 => ?_)
      refine y_aload_n (q := 28) rfl rfl rfl ?_
      refine y_callI (I := .invokevirtual 276) (idx := 276) (KD := 1) (J := 161) (mj := mj151) (as := [.ref 0]) (r := []) (q := 31) rfl (fun _ _ _ _ _ _ => rfl) rfl (by decide) rfl rfl rfl rfl rfl (Nat.le_of_ble_eq_true rfl) (d_recv atM0 (by decide) (by decide)) rfl (m_X7_not4 (Nat.le_trans (by decide) hd)  g6) (fun r7 g8 => ?_)
      refine y_istore_n (lo' := [some (.ref 0), some (.int v1), some (.int r7)]) (q := 32) rfl (Nat.le_of_ble_eq_true rfl) rfl rfl ?_
      refine y_iload_n (q := 33) rfl rfl rfl ?_
      refine y_eq0 (q := 44) (q' := 36) rfl rfl rfl rfl (fun c9 => ?_) (fun c10 => ?_)
      · skip
        refine y_iconst (x := 0) (q := 45) rfl (by decide) rfl ?_
        refine y_istore_n (lo' := [some (.ref 0), some (.int 0), some (.int r7)]) (q := 46) rfl (Nat.le_of_ble_eq_true rfl) rfl rfl ?_
        refine y_goto (q := 5) rfl rfl ?_
        exact lz_X7_both4_5 hd  k hk n 0 g8 (some (.int r7))
      · skip
        refine y_iload_n (q := 37) rfl rfl rfl ?_
        refine y_eq0 (q := 44) (q' := 40) rfl rfl rfl rfl (fun c11 => ?_) (fun c12 => ?_)
        · skip
          refine y_iconst (x := 0) (q := 45) rfl (by decide) rfl ?_
          refine y_istore_n (lo' := [some (.ref 0), some (.int 0), some (.int r7)]) (q := 46) rfl (Nat.le_of_ble_eq_true rfl) rfl rfl ?_
          refine y_goto (q := 5) rfl rfl ?_
          exact lz_X7_both4_5 hd  k hk n 0 g8 (some (.int r7))
        · skip
          refine y_iconst (x := 1) (q := 41) rfl (by decide) rfl ?_
          refine y_goto (q := 45) rfl rfl ?_
          refine y_istore_n (lo' := [some (.ref 0), some (.int 1), some (.int r7)]) (q := 46) rfl (Nat.le_of_ble_eq_true rfl) rfl rfl ?_
          refine y_goto (q := 5) rfl rfl ?_
          exact lz_X7_both4_5 hd  k hk n 1 g8 (some (.int r7))
def f_X7_both4  (h : dH) : Option (Int32 × dH) := oI (f_X7_not4  h) (fun r1 g2 => l_X7_both4_5   (fun v1_13 g15 => some (v1_13, g15)) fuel0 r1 g2)
theorem m_X7_both4 {d : Nat} (hd : 15 ≤ d)  (h : dH) : dX shM d 152 [.ref 0] dI (f_X7_both4  h) h := by
  obtain ⟨e, rfl⟩ : ∃ e, d = e + 1 := ⟨d - 1, by omega⟩
  have hd : 14 ≤ e := by omega
  refine dX_of (mj := mj152) (lo := [some (.ref 0), none, none]) rfl (Nat.le_of_ble_eq_true rfl) rfl ?_
  unfold f_X7_both4
  refine y_aload_n (q := 1) rfl rfl rfl ?_
  refine y_callI (I := .invokevirtual 276) (idx := 276) (KD := 1) (J := 161) (mj := mj151) (as := [.ref 0]) (r := []) (q := 4) rfl (fun _ _ _ _ _ _ => rfl) rfl (by decide) rfl rfl rfl rfl rfl (Nat.le_of_ble_eq_true rfl) (d_recv atM0 (by decide) (by decide)) rfl (m_X7_not4 (Nat.le_trans (by decide) hd)  h) (fun r1 g2 => ?_)
  refine y_istore_n (lo' := [some (.ref 0), some (.int r1), none]) (q := 5) rfl (Nat.le_of_ble_eq_true rfl) rfl rfl ?_
  refine lz_X7_both4_5 hd   _ (fun v1_13 z14 g15 => ?_) fuel0 r1 g2 (none)
  refine y_iload_n (q := 50) rfl rfl rfl ?_
  exact y_retI rfl (by decide) rfl rfl
def l_X7_either4_5  (k : Int32 → dH → Option (Int32 × dH)) : Nat → Int32 → dH → Option (Int32 × dH)
  | 0, _, _ => none
  | n + 1, v1, h => oP (f_X7_isWord 111 114 0 0 0 0 0 0 h) (fun r3 => if r3.toInt = 0 then (k v1 h) else (oV (f_X7_next  h) (fun g6 => oI (f_X7_both4  g6) (fun r7 g8 => if v1.toInt = 0 then (if r7.toInt = 0 then (l_X7_either4_5  k n 0 g8) else (l_X7_either4_5  k n 1 g8)) else (l_X7_either4_5  k n 1 g8)))))
theorem lz_X7_either4_5 {d : Nat} (hd : 15 ≤ d)  (k : Int32 → dH → Option (Int32 × dH)) (hk : ∀ (v1 : Int32) (z2 : Option Value) (h : dH), dY shM d mj153 dI (k v1 h) 48 [some (.ref 0), some (.int v1), z2] [] h) : ∀ (n : Nat) (v1 : Int32) (h : dH) (z2 : Option Value), dY shM d mj153 dI (l_X7_either4_5  k n v1 h) 5 [some (.ref 0), some (.int v1), z2] [] h
  | 0, _, _, _ => dY_none
  | n + 1, v1, h, z2 => by
    rw [l_X7_either4_5]
    refine y_aload_n (q := 6) rfl rfl rfl ?_
    refine y_bipush (x := 111) (q := 8) rfl (by decide) rfl ?_
    refine y_bipush (x := 114) (q := 10) rfl (by decide) rfl ?_
    refine y_iconst (x := 0) (q := 11) rfl (by decide) rfl ?_
    refine y_iconst (x := 0) (q := 12) rfl (by decide) rfl ?_
    refine y_iconst (x := 0) (q := 13) rfl (by decide) rfl ?_
    refine y_iconst (x := 0) (q := 14) rfl (by decide) rfl ?_
    refine y_iconst (x := 0) (q := 15) rfl (by decide) rfl ?_
    refine y_iconst (x := 0) (q := 16) rfl (by decide) rfl ?_
    refine y_callP (I := .invokevirtual 212) (idx := 212) (KD := 1) (J := 148) (mj := mj138) (as := [.ref 0, .int 111, .int 114, .int 0, .int 0, .int 0, .int 0, .int 0, .int 0]) (r := []) (q := 19) rfl (fun _ _ _ _ _ _ => rfl) rfl (by decide) rfl rfl rfl rfl rfl (Nat.le_of_ble_eq_true rfl) (d_recv atM0 (by decide) (by decide)) rfl (m_X7_isWord (Nat.le_trans (by decide) hd) 111 114 0 0 0 0 0 0 h) (fun r3 => ?_)
    refine y_eq0 (q := 48) (q' := 22) rfl rfl rfl rfl (fun c4 => ?_) (fun c5 => ?_)
    · skip
      exact hk v1 (z2) h
    · skip
      refine y_aload_n (q := 23) rfl rfl rfl ?_
      refine y_callV (I := .invokevirtual 209) (idx := 209) (KD := 1) (J := 145) (mj := mj135) (as := [.ref 0]) (r := []) (q := 26) rfl (fun _ _ _ _ _ _ => rfl) rfl (by decide) rfl rfl rfl rfl rfl (Nat.le_of_ble_eq_true rfl) (d_recv atM0 (by decide) (by decide)) rfl (m_X7_next (Nat.le_trans (by decide) hd)  h) (fun g6 => ?_)
      refine y_aload_n (q := 27) rfl rfl rfl ?_
      refine y_callI (I := .invokevirtual 279) (idx := 279) (KD := 1) (J := 162) (mj := mj152) (as := [.ref 0]) (r := []) (q := 30) rfl (fun _ _ _ _ _ _ => rfl) rfl (by decide) rfl rfl rfl rfl rfl (Nat.le_of_ble_eq_true rfl) (d_recv atM0 (by decide) (by decide)) rfl (m_X7_both4 (Nat.le_trans (by decide) hd)  g6) (fun r7 g8 => ?_)
      refine y_istore_n (lo' := [some (.ref 0), some (.int v1), some (.int r7)]) (q := 31) rfl (Nat.le_of_ble_eq_true rfl) rfl rfl ?_
      refine y_iload_n (q := 32) rfl rfl rfl ?_
      refine y_ne0 (q := 39) (q' := 35) rfl rfl rfl rfl (fun c9 => ?_) (fun c10 => ?_)
      · skip
        refine y_iload_n (q := 36) rfl rfl rfl ?_
        refine y_eq0 (q := 43) (q' := 39) rfl rfl rfl rfl (fun c11 => ?_) (fun c12 => ?_)
        · skip
          refine y_iconst (x := 0) (q := 44) rfl (by decide) rfl ?_
          refine y_istore_n (lo' := [some (.ref 0), some (.int 0), some (.int r7)]) (q := 45) rfl (Nat.le_of_ble_eq_true rfl) rfl rfl ?_
          refine y_goto (q := 5) rfl rfl ?_
          exact lz_X7_either4_5 hd  k hk n 0 g8 (some (.int r7))
        · skip
          refine y_iconst (x := 1) (q := 40) rfl (by decide) rfl ?_
          refine y_goto (q := 44) rfl rfl ?_
          refine y_istore_n (lo' := [some (.ref 0), some (.int 1), some (.int r7)]) (q := 45) rfl (Nat.le_of_ble_eq_true rfl) rfl rfl ?_
          refine y_goto (q := 5) rfl rfl ?_
          exact lz_X7_either4_5 hd  k hk n 1 g8 (some (.int r7))
      · skip
        refine y_iconst (x := 1) (q := 40) rfl (by decide) rfl ?_
        refine y_goto (q := 44) rfl rfl ?_
        refine y_istore_n (lo' := [some (.ref 0), some (.int 1), some (.int r7)]) (q := 45) rfl (Nat.le_of_ble_eq_true rfl) rfl rfl ?_
        refine y_goto (q := 5) rfl rfl ?_
        exact lz_X7_either4_5 hd  k hk n 1 g8 (some (.int r7))
def f_X7_either4  (h : dH) : Option (Int32 × dH) := oI (f_X7_both4  h) (fun r1 g2 => l_X7_either4_5   (fun v1_13 g15 => some (v1_13, g15)) fuel0 r1 g2)
theorem m_X7_either4 {d : Nat} (hd : 16 ≤ d)  (h : dH) : dX shM d 153 [.ref 0] dI (f_X7_either4  h) h := by
  obtain ⟨e, rfl⟩ : ∃ e, d = e + 1 := ⟨d - 1, by omega⟩
  have hd : 15 ≤ e := by omega
  refine dX_of (mj := mj153) (lo := [some (.ref 0), none, none]) rfl (Nat.le_of_ble_eq_true rfl) rfl ?_
  unfold f_X7_either4
  refine y_aload_n (q := 1) rfl rfl rfl ?_
  refine y_callI (I := .invokevirtual 279) (idx := 279) (KD := 1) (J := 162) (mj := mj152) (as := [.ref 0]) (r := []) (q := 4) rfl (fun _ _ _ _ _ _ => rfl) rfl (by decide) rfl rfl rfl rfl rfl (Nat.le_of_ble_eq_true rfl) (d_recv atM0 (by decide) (by decide)) rfl (m_X7_both4 (Nat.le_trans (by decide) hd)  h) (fun r1 g2 => ?_)
  refine y_istore_n (lo' := [some (.ref 0), some (.int r1), none]) (q := 5) rfl (Nat.le_of_ble_eq_true rfl) rfl rfl ?_
  refine lz_X7_either4_5 hd   _ (fun v1_13 z14 g15 => ?_) fuel0 r1 g2 (none)
  refine y_iload_n (q := 49) rfl rfl rfl ?_
  exact y_retI rfl (by decide) rfl rfl
def f_X7_atom3  (h : dH) : Option (Int32 × dH) := oP (f_X7_isSign 45 h) (fun r1 => if r1.toInt = 0 then (oP (f_X7_isSign 40 h) (fun r4 => if r4.toInt = 0 then (if (h 0 27).toInt = 0 then (if (h 0 23).toInt = 2 then (oV (f_X7_next  h) (fun g11 => some ((h 0 25).toInt64.toInt32, g11))) else (if (h 0 27).toInt = 0 then (if (h 0 23).toInt = 1 then (oI (f_X7_name  h) (fun r16 g17 => if (g17 0 27).toInt = 0 then (oV (f_X7_next  g17) (fun g20 => some (r16, g20))) else (some (r16, g17)))) else (oV (f_X7_fail  h) (fun g21 => some (0, g21)))) else (oV (f_X7_fail  h) (fun g22 => some (0, g22))))) else (if (h 0 27).toInt = 0 then (if (h 0 23).toInt = 1 then (oI (f_X7_name  h) (fun r27 g28 => if (g28 0 27).toInt = 0 then (oV (f_X7_next  g28) (fun g31 => some (r27, g31))) else (some (r27, g28)))) else (oV (f_X7_fail  h) (fun g32 => some (0, g32)))) else (oV (f_X7_fail  h) (fun g33 => some (0, g33))))) else (oI (f_X7_opens  h) (fun r34 g35 => if r34.toInt = 0 then (some (0, g35)) else (oI (f_X7_either4  g35) (fun r38 g39 => oP (f_X7_isSign 41 g39) (fun r40 => if r40.toInt = 0 then (oV (f_X7_fail  g39) (fun g43 => oH (dU g43 0 26 ((g43 0 26) - 1)) (fun g44 => if (g44 0 27).toInt = 0 then (oV (f_X7_next  g44) (fun g47 => some (r38, g47))) else (some (r38, g44))))) else (oH (dU g39 0 26 ((g39 0 26) - 1)) (fun g48 => if (g48 0 27).toInt = 0 then (oV (f_X7_next  g48) (fun g51 => some (r38, g51))) else (some (r38, g48))))))))))) else (oI (f_X7_opens  h) (fun r52 g53 => if r52.toInt = 0 then (some (0, g53)) else (oI (f_X7_atom4  g53) (fun r56 g57 => oH (dU g57 0 26 ((g57 0 26) - 1)) (fun g58 => some ((-r56), g58)))))))
theorem m_X7_atom3 {d : Nat} (hd : 17 ≤ d)  (h : dH) : dX shM d 154 [.ref 0] dI (f_X7_atom3  h) h := by
  obtain ⟨e, rfl⟩ : ∃ e, d = e + 1 := ⟨d - 1, by omega⟩
  have hd : 16 ≤ e := by omega
  refine dX_of (mj := mj154) (lo := [some (.ref 0), none]) rfl (Nat.le_of_ble_eq_true rfl) rfl ?_
  unfold f_X7_atom3
  refine y_iconst (x := 0) (q := 1) rfl (by decide) rfl ?_
  refine y_istore_n (lo' := [some (.ref 0), some (.int 0)]) (q := 2) rfl (Nat.le_of_ble_eq_true rfl) rfl rfl ?_
  refine y_aload_n (q := 3) rfl rfl rfl ?_
  refine y_bipush (x := 45) (q := 5) rfl (by decide) rfl ?_
  refine y_callP (I := .invokevirtual 234) (idx := 234) (KD := 1) (J := 149) (mj := mj139) (as := [.ref 0, .int 45]) (r := []) (q := 8) rfl (fun _ _ _ _ _ _ => rfl) rfl (by decide) rfl rfl rfl rfl rfl (Nat.le_of_ble_eq_true rfl) (d_recv atM0 (by decide) (by decide)) rfl (m_X7_isSign (Nat.le_trans (by decide) hd) 45 h) (fun r1 => ?_)
  refine y_eq0 (q := 37) (q' := 11) rfl rfl rfl rfl (fun c2 => ?_) (fun c3 => ?_)
  · skip
    refine y_aload_n (q := 38) rfl rfl rfl ?_
    refine y_bipush (x := 40) (q := 40) rfl (by decide) rfl ?_
    refine y_callP (I := .invokevirtual 234) (idx := 234) (KD := 1) (J := 149) (mj := mj139) (as := [.ref 0, .int 40]) (r := []) (q := 43) rfl (fun _ _ _ _ _ _ => rfl) rfl (by decide) rfl rfl rfl rfl rfl (Nat.le_of_ble_eq_true rfl) (d_recv atM0 (by decide) (by decide)) rfl (m_X7_isSign (Nat.le_trans (by decide) hd) 40 h) (fun r4 => ?_)
    refine y_eq0 (q := 95) (q' := 46) rfl rfl rfl rfl (fun c5 => ?_) (fun c6 => ?_)
    · skip
      refine y_aload_n (q := 96) rfl rfl rfl ?_
      refine y_getI (q := 99) rfl rfl (by decide) atM0 rfl rfl ?_
      refine y_ne0 (q := 123) (q' := 102) rfl rfl rfl rfl (fun c7 => ?_) (fun c8 => ?_)
      · skip
        refine y_aload_n (q := 103) rfl rfl rfl ?_
        refine y_getI (q := 106) rfl rfl (by decide) atM0 rfl rfl ?_
        refine y_iconst (x := 2) (q := 107) rfl (by decide) rfl ?_
        refine y_ne (q := 123) (q' := 110) rfl rfl (by decide) rfl rfl (fun c9 => ?_) (fun c10 => ?_)
        · skip
          refine y_aload_n (q := 111) rfl rfl rfl ?_
          refine y_getL (q := 114) rfl rfl (by decide) atM0 rfl rfl ?_
          refine y_l2i (q := 115) rfl rfl ?_
          refine y_istore_n (lo' := [some (.ref 0), some (.int (h 0 25).toInt64.toInt32)]) (q := 116) rfl (Nat.le_of_ble_eq_true rfl) rfl rfl ?_
          refine y_aload_n (q := 117) rfl rfl rfl ?_
          refine y_callV (I := .invokevirtual 209) (idx := 209) (KD := 1) (J := 145) (mj := mj135) (as := [.ref 0]) (r := []) (q := 120) rfl (fun _ _ _ _ _ _ => rfl) rfl (by decide) rfl rfl rfl rfl rfl (Nat.le_of_ble_eq_true rfl) (d_recv atM0 (by decide) (by decide)) rfl (m_X7_next (Nat.le_trans (by decide) hd)  h) (fun g11 => ?_)
          refine y_goto (q := 161) rfl rfl ?_
          refine y_iload_n (q := 162) rfl rfl rfl ?_
          exact y_retI rfl (by decide) rfl rfl
        · skip
          refine y_aload_n (q := 124) rfl rfl rfl ?_
          refine y_getI (q := 127) rfl rfl (by decide) atM0 rfl rfl ?_
          refine y_ne0 (q := 157) (q' := 130) rfl rfl rfl rfl (fun c12 => ?_) (fun c13 => ?_)
          · skip
            refine y_aload_n (q := 131) rfl rfl rfl ?_
            refine y_getI (q := 134) rfl rfl (by decide) atM0 rfl rfl ?_
            refine y_iconst (x := 1) (q := 135) rfl (by decide) rfl ?_
            refine y_ne (q := 157) (q' := 138) rfl rfl (by decide) rfl rfl (fun c14 => ?_) (fun c15 => ?_)
            · skip
              refine y_aload_n (q := 139) rfl rfl rfl ?_
              refine y_callI (I := .invokevirtual 241) (idx := 241) (KD := 1) (J := 151) (mj := mj141) (as := [.ref 0]) (r := []) (q := 142) rfl (fun _ _ _ _ _ _ => rfl) rfl (by decide) rfl rfl rfl rfl rfl (Nat.le_of_ble_eq_true rfl) (d_recv atM0 (by decide) (by decide)) rfl (m_X7_name (Nat.le_trans (by decide) hd)  h) (fun r16 g17 => ?_)
              refine y_istore_n (lo' := [some (.ref 0), some (.int r16)]) (q := 143) rfl (Nat.le_of_ble_eq_true rfl) rfl rfl ?_
              refine y_aload_n (q := 144) rfl rfl rfl ?_
              refine y_getI (q := 147) rfl rfl (by decide) atM0 rfl rfl ?_
              refine y_ne0 (q := 161) (q' := 150) rfl rfl rfl rfl (fun c18 => ?_) (fun c19 => ?_)
              · skip
                refine y_aload_n (q := 151) rfl rfl rfl ?_
                refine y_callV (I := .invokevirtual 209) (idx := 209) (KD := 1) (J := 145) (mj := mj135) (as := [.ref 0]) (r := []) (q := 154) rfl (fun _ _ _ _ _ _ => rfl) rfl (by decide) rfl rfl rfl rfl rfl (Nat.le_of_ble_eq_true rfl) (d_recv atM0 (by decide) (by decide)) rfl (m_X7_next (Nat.le_trans (by decide) hd)  g17) (fun g20 => ?_)
                refine y_goto (q := 161) rfl rfl ?_
                refine y_iload_n (q := 162) rfl rfl rfl ?_
                exact y_retI rfl (by decide) rfl rfl
              · skip
                refine y_iload_n (q := 162) rfl rfl rfl ?_
                exact y_retI rfl (by decide) rfl rfl
            · skip
              refine y_aload_n (q := 158) rfl rfl rfl ?_
              refine y_callV (I := .invokevirtual 206) (idx := 206) (KD := 1) (J := 146) (mj := mj136) (as := [.ref 0]) (r := []) (q := 161) rfl (fun _ _ _ _ _ _ => rfl) rfl (by decide) rfl rfl rfl rfl rfl (Nat.le_of_ble_eq_true rfl) (d_recv atM0 (by decide) (by decide)) rfl (m_X7_fail (Nat.le_trans (by decide) hd)  h) (fun g21 => ?_)
              refine y_iload_n (q := 162) rfl rfl rfl ?_
              exact y_retI rfl (by decide) rfl rfl
          · skip
            refine y_aload_n (q := 158) rfl rfl rfl ?_
            refine y_callV (I := .invokevirtual 206) (idx := 206) (KD := 1) (J := 146) (mj := mj136) (as := [.ref 0]) (r := []) (q := 161) rfl (fun _ _ _ _ _ _ => rfl) rfl (by decide) rfl rfl rfl rfl rfl (Nat.le_of_ble_eq_true rfl) (d_recv atM0 (by decide) (by decide)) rfl (m_X7_fail (Nat.le_trans (by decide) hd)  h) (fun g22 => ?_)
            refine y_iload_n (q := 162) rfl rfl rfl ?_
            exact y_retI rfl (by decide) rfl rfl
      · skip
        refine y_aload_n (q := 124) rfl rfl rfl ?_
        refine y_getI (q := 127) rfl rfl (by decide) atM0 rfl rfl ?_
        refine y_ne0 (q := 157) (q' := 130) rfl rfl rfl rfl (fun c23 => ?_) (fun c24 => ?_)
        · skip
          refine y_aload_n (q := 131) rfl rfl rfl ?_
          refine y_getI (q := 134) rfl rfl (by decide) atM0 rfl rfl ?_
          refine y_iconst (x := 1) (q := 135) rfl (by decide) rfl ?_
          refine y_ne (q := 157) (q' := 138) rfl rfl (by decide) rfl rfl (fun c25 => ?_) (fun c26 => ?_)
          · skip
            refine y_aload_n (q := 139) rfl rfl rfl ?_
            refine y_callI (I := .invokevirtual 241) (idx := 241) (KD := 1) (J := 151) (mj := mj141) (as := [.ref 0]) (r := []) (q := 142) rfl (fun _ _ _ _ _ _ => rfl) rfl (by decide) rfl rfl rfl rfl rfl (Nat.le_of_ble_eq_true rfl) (d_recv atM0 (by decide) (by decide)) rfl (m_X7_name (Nat.le_trans (by decide) hd)  h) (fun r27 g28 => ?_)
            refine y_istore_n (lo' := [some (.ref 0), some (.int r27)]) (q := 143) rfl (Nat.le_of_ble_eq_true rfl) rfl rfl ?_
            refine y_aload_n (q := 144) rfl rfl rfl ?_
            refine y_getI (q := 147) rfl rfl (by decide) atM0 rfl rfl ?_
            refine y_ne0 (q := 161) (q' := 150) rfl rfl rfl rfl (fun c29 => ?_) (fun c30 => ?_)
            · skip
              refine y_aload_n (q := 151) rfl rfl rfl ?_
              refine y_callV (I := .invokevirtual 209) (idx := 209) (KD := 1) (J := 145) (mj := mj135) (as := [.ref 0]) (r := []) (q := 154) rfl (fun _ _ _ _ _ _ => rfl) rfl (by decide) rfl rfl rfl rfl rfl (Nat.le_of_ble_eq_true rfl) (d_recv atM0 (by decide) (by decide)) rfl (m_X7_next (Nat.le_trans (by decide) hd)  g28) (fun g31 => ?_)
              refine y_goto (q := 161) rfl rfl ?_
              refine y_iload_n (q := 162) rfl rfl rfl ?_
              exact y_retI rfl (by decide) rfl rfl
            · skip
              refine y_iload_n (q := 162) rfl rfl rfl ?_
              exact y_retI rfl (by decide) rfl rfl
          · skip
            refine y_aload_n (q := 158) rfl rfl rfl ?_
            refine y_callV (I := .invokevirtual 206) (idx := 206) (KD := 1) (J := 146) (mj := mj136) (as := [.ref 0]) (r := []) (q := 161) rfl (fun _ _ _ _ _ _ => rfl) rfl (by decide) rfl rfl rfl rfl rfl (Nat.le_of_ble_eq_true rfl) (d_recv atM0 (by decide) (by decide)) rfl (m_X7_fail (Nat.le_trans (by decide) hd)  h) (fun g32 => ?_)
            refine y_iload_n (q := 162) rfl rfl rfl ?_
            exact y_retI rfl (by decide) rfl rfl
        · skip
          refine y_aload_n (q := 158) rfl rfl rfl ?_
          refine y_callV (I := .invokevirtual 206) (idx := 206) (KD := 1) (J := 146) (mj := mj136) (as := [.ref 0]) (r := []) (q := 161) rfl (fun _ _ _ _ _ _ => rfl) rfl (by decide) rfl rfl rfl rfl rfl (Nat.le_of_ble_eq_true rfl) (d_recv atM0 (by decide) (by decide)) rfl (m_X7_fail (Nat.le_trans (by decide) hd)  h) (fun g33 => ?_)
          refine y_iload_n (q := 162) rfl rfl rfl ?_
          exact y_retI rfl (by decide) rfl rfl
    · skip
      refine y_aload_n (q := 47) rfl rfl rfl ?_
      refine y_callI (I := .invokevirtual 237) (idx := 237) (KD := 1) (J := 150) (mj := mj140) (as := [.ref 0]) (r := []) (q := 50) rfl (fun _ _ _ _ _ _ => rfl) rfl (by decide) rfl rfl rfl rfl rfl (Nat.le_of_ble_eq_true rfl) (d_recv atM0 (by decide) (by decide)) rfl (m_X7_opens (Nat.le_trans (by decide) hd)  h) (fun r34 g35 => ?_)
      refine y_eq0 (q := 161) (q' := 53) rfl rfl rfl rfl (fun c36 => ?_) (fun c37 => ?_)
      · skip
        refine y_iload_n (q := 162) rfl rfl rfl ?_
        exact y_retI rfl (by decide) rfl rfl
      · skip
        refine y_aload_n (q := 54) rfl rfl rfl ?_
        refine y_callI (I := .invokevirtual 282) (idx := 282) (KD := 1) (J := 163) (mj := mj153) (as := [.ref 0]) (r := []) (q := 57) rfl (fun _ _ _ _ _ _ => rfl) rfl (by decide) rfl rfl rfl rfl rfl (Nat.le_of_ble_eq_true rfl) (d_recv atM0 (by decide) (by decide)) rfl (m_X7_either4 (Nat.le_trans (by decide) hd)  g35) (fun r38 g39 => ?_)
        refine y_istore_n (lo' := [some (.ref 0), some (.int r38)]) (q := 58) rfl (Nat.le_of_ble_eq_true rfl) rfl rfl ?_
        refine y_aload_n (q := 59) rfl rfl rfl ?_
        refine y_bipush (x := 41) (q := 61) rfl (by decide) rfl ?_
        refine y_callP (I := .invokevirtual 234) (idx := 234) (KD := 1) (J := 149) (mj := mj139) (as := [.ref 0, .int 41]) (r := []) (q := 64) rfl (fun _ _ _ _ _ _ => rfl) rfl (by decide) rfl rfl rfl rfl rfl (Nat.le_of_ble_eq_true rfl) (d_recv atM0 (by decide) (by decide)) rfl (m_X7_isSign (Nat.le_trans (by decide) hd) 41 g39) (fun r40 => ?_)
        refine y_ne0 (q := 71) (q' := 67) rfl rfl rfl rfl (fun c41 => ?_) (fun c42 => ?_)
        · skip
          refine y_aload_n (q := 68) rfl rfl rfl ?_
          refine y_callV (I := .invokevirtual 206) (idx := 206) (KD := 1) (J := 146) (mj := mj136) (as := [.ref 0]) (r := []) (q := 71) rfl (fun _ _ _ _ _ _ => rfl) rfl (by decide) rfl rfl rfl rfl rfl (Nat.le_of_ble_eq_true rfl) (d_recv atM0 (by decide) (by decide)) rfl (m_X7_fail (Nat.le_trans (by decide) hd)  g39) (fun g43 => ?_)
          refine y_aload_n (q := 72) rfl rfl rfl ?_
          refine y_dup (q := 73) rfl rfl ?_
          refine y_getI (q := 76) rfl rfl (by decide) atM0 rfl rfl ?_
          refine y_iconst (x := 1) (q := 77) rfl (by decide) rfl ?_
          refine y_isub (q := 78) rfl rfl ?_
          refine y_putI (q := 81) rfl rfl (by decide) atM0 rfl rfl rfl rfl (fun g44 => ?_)
          refine y_aload_n (q := 82) rfl rfl rfl ?_
          refine y_getI (q := 85) rfl rfl (by decide) atM0 rfl rfl ?_
          refine y_ne0 (q := 161) (q' := 88) rfl rfl rfl rfl (fun c45 => ?_) (fun c46 => ?_)
          · skip
            refine y_aload_n (q := 89) rfl rfl rfl ?_
            refine y_callV (I := .invokevirtual 209) (idx := 209) (KD := 1) (J := 145) (mj := mj135) (as := [.ref 0]) (r := []) (q := 92) rfl (fun _ _ _ _ _ _ => rfl) rfl (by decide) rfl rfl rfl rfl rfl (Nat.le_of_ble_eq_true rfl) (d_recv atM0 (by decide) (by decide)) rfl (m_X7_next (Nat.le_trans (by decide) hd)  g44) (fun g47 => ?_)
            refine y_goto (q := 161) rfl rfl ?_
            refine y_iload_n (q := 162) rfl rfl rfl ?_
            exact y_retI rfl (by decide) rfl rfl
          · skip
            refine y_iload_n (q := 162) rfl rfl rfl ?_
            exact y_retI rfl (by decide) rfl rfl
        · skip
          refine y_aload_n (q := 72) rfl rfl rfl ?_
          refine y_dup (q := 73) rfl rfl ?_
          refine y_getI (q := 76) rfl rfl (by decide) atM0 rfl rfl ?_
          refine y_iconst (x := 1) (q := 77) rfl (by decide) rfl ?_
          refine y_isub (q := 78) rfl rfl ?_
          refine y_putI (q := 81) rfl rfl (by decide) atM0 rfl rfl rfl rfl (fun g48 => ?_)
          refine y_aload_n (q := 82) rfl rfl rfl ?_
          refine y_getI (q := 85) rfl rfl (by decide) atM0 rfl rfl ?_
          refine y_ne0 (q := 161) (q' := 88) rfl rfl rfl rfl (fun c49 => ?_) (fun c50 => ?_)
          · skip
            refine y_aload_n (q := 89) rfl rfl rfl ?_
            refine y_callV (I := .invokevirtual 209) (idx := 209) (KD := 1) (J := 145) (mj := mj135) (as := [.ref 0]) (r := []) (q := 92) rfl (fun _ _ _ _ _ _ => rfl) rfl (by decide) rfl rfl rfl rfl rfl (Nat.le_of_ble_eq_true rfl) (d_recv atM0 (by decide) (by decide)) rfl (m_X7_next (Nat.le_trans (by decide) hd)  g48) (fun g51 => ?_)
            refine y_goto (q := 161) rfl rfl ?_
            refine y_iload_n (q := 162) rfl rfl rfl ?_
            exact y_retI rfl (by decide) rfl rfl
          · skip
            refine y_iload_n (q := 162) rfl rfl rfl ?_
            exact y_retI rfl (by decide) rfl rfl
  · skip
    refine y_aload_n (q := 12) rfl rfl rfl ?_
    refine y_callI (I := .invokevirtual 237) (idx := 237) (KD := 1) (J := 150) (mj := mj140) (as := [.ref 0]) (r := []) (q := 15) rfl (fun _ _ _ _ _ _ => rfl) rfl (by decide) rfl rfl rfl rfl rfl (Nat.le_of_ble_eq_true rfl) (d_recv atM0 (by decide) (by decide)) rfl (m_X7_opens (Nat.le_trans (by decide) hd)  h) (fun r52 g53 => ?_)
    refine y_eq0 (q := 161) (q' := 18) rfl rfl rfl rfl (fun c54 => ?_) (fun c55 => ?_)
    · skip
      refine y_iload_n (q := 162) rfl rfl rfl ?_
      exact y_retI rfl (by decide) rfl rfl
    · skip
      refine y_aload_n (q := 19) rfl rfl rfl ?_
      refine y_callI (I := .invokevirtual 267) (idx := 267) (KD := 1) (J := 158) (mj := mj148) (as := [.ref 0]) (r := []) (q := 22) rfl (fun _ _ _ _ _ _ => rfl) rfl (by decide) rfl rfl rfl rfl rfl (Nat.le_of_ble_eq_true rfl) (d_recv atM0 (by decide) (by decide)) rfl (m_X7_atom4 (Nat.le_trans (by decide) hd)  g53) (fun r56 g57 => ?_)
      refine y_ineg (q := 23) rfl rfl ?_
      refine y_istore_n (lo' := [some (.ref 0), some (.int (-r56))]) (q := 24) rfl (Nat.le_of_ble_eq_true rfl) rfl rfl ?_
      refine y_aload_n (q := 25) rfl rfl rfl ?_
      refine y_dup (q := 26) rfl rfl ?_
      refine y_getI (q := 29) rfl rfl (by decide) atM0 rfl rfl ?_
      refine y_iconst (x := 1) (q := 30) rfl (by decide) rfl ?_
      refine y_isub (q := 31) rfl rfl ?_
      refine y_putI (q := 34) rfl rfl (by decide) atM0 rfl rfl rfl rfl (fun g58 => ?_)
      refine y_goto (q := 161) rfl rfl ?_
      refine y_iload_n (q := 162) rfl rfl rfl ?_
      exact y_retI rfl (by decide) rfl rfl
def l_X7_term3_5  (k : Int32 → dH → Option (Int32 × dH)) : Nat → Int32 → dH → Option (Int32 × dH)
  | 0, _, _ => none
  | n + 1, v1, h => oP (f_X7_isSign 42 h) (fun r3 => if r3.toInt = 0 then (k v1 h) else (oV (f_X7_next  h) (fun g6 => oI (f_X7_atom3  g6) (fun r7 g8 => l_X7_term3_5  k n (v1 * r7) g8))))
theorem lz_X7_term3_5 {d : Nat} (hd : 17 ≤ d)  (k : Int32 → dH → Option (Int32 × dH)) (hk : ∀ (v1 : Int32) (h : dH), dY shM d mj155 dI (k v1 h) 28 [some (.ref 0), some (.int v1)] [] h) : ∀ (n : Nat) (v1 : Int32) (h : dH), dY shM d mj155 dI (l_X7_term3_5  k n v1 h) 5 [some (.ref 0), some (.int v1)] [] h
  | 0, _, _ => dY_none
  | n + 1, v1, h => by
    rw [l_X7_term3_5]
    refine y_aload_n (q := 6) rfl rfl rfl ?_
    refine y_bipush (x := 42) (q := 8) rfl (by decide) rfl ?_
    refine y_callP (I := .invokevirtual 234) (idx := 234) (KD := 1) (J := 149) (mj := mj139) (as := [.ref 0, .int 42]) (r := []) (q := 11) rfl (fun _ _ _ _ _ _ => rfl) rfl (by decide) rfl rfl rfl rfl rfl (Nat.le_of_ble_eq_true rfl) (d_recv atM0 (by decide) (by decide)) rfl (m_X7_isSign (Nat.le_trans (by decide) hd) 42 h) (fun r3 => ?_)
    refine y_eq0 (q := 28) (q' := 14) rfl rfl rfl rfl (fun c4 => ?_) (fun c5 => ?_)
    · skip
      exact hk v1  h
    · skip
      refine y_aload_n (q := 15) rfl rfl rfl ?_
      refine y_callV (I := .invokevirtual 209) (idx := 209) (KD := 1) (J := 145) (mj := mj135) (as := [.ref 0]) (r := []) (q := 18) rfl (fun _ _ _ _ _ _ => rfl) rfl (by decide) rfl rfl rfl rfl rfl (Nat.le_of_ble_eq_true rfl) (d_recv atM0 (by decide) (by decide)) rfl (m_X7_next (Nat.le_trans (by decide) hd)  h) (fun g6 => ?_)
      refine y_iload_n (q := 19) rfl rfl rfl ?_
      refine y_aload_n (q := 20) rfl rfl rfl ?_
      refine y_callI (I := .invokevirtual 285) (idx := 285) (KD := 1) (J := 164) (mj := mj154) (as := [.ref 0]) (r := [.int v1]) (q := 23) rfl (fun _ _ _ _ _ _ => rfl) rfl (by decide) rfl rfl rfl rfl rfl (Nat.le_of_ble_eq_true rfl) (d_recv atM0 (by decide) (by decide)) rfl (m_X7_atom3 (Nat.le_trans (by decide) hd)  g6) (fun r7 g8 => ?_)
      refine y_imul (q := 24) rfl rfl ?_
      refine y_istore_n (lo' := [some (.ref 0), some (.int (v1 * r7))]) (q := 25) rfl (Nat.le_of_ble_eq_true rfl) rfl rfl ?_
      refine y_goto (q := 5) rfl rfl ?_
      exact lz_X7_term3_5 hd  k hk n (v1 * r7) g8 
def f_X7_term3  (h : dH) : Option (Int32 × dH) := oI (f_X7_atom3  h) (fun r1 g2 => l_X7_term3_5   (fun v1_9 g10 => some (v1_9, g10)) fuel0 r1 g2)
theorem m_X7_term3 {d : Nat} (hd : 18 ≤ d)  (h : dH) : dX shM d 155 [.ref 0] dI (f_X7_term3  h) h := by
  obtain ⟨e, rfl⟩ : ∃ e, d = e + 1 := ⟨d - 1, by omega⟩
  have hd : 17 ≤ e := by omega
  refine dX_of (mj := mj155) (lo := [some (.ref 0), none]) rfl (Nat.le_of_ble_eq_true rfl) rfl ?_
  unfold f_X7_term3
  refine y_aload_n (q := 1) rfl rfl rfl ?_
  refine y_callI (I := .invokevirtual 285) (idx := 285) (KD := 1) (J := 164) (mj := mj154) (as := [.ref 0]) (r := []) (q := 4) rfl (fun _ _ _ _ _ _ => rfl) rfl (by decide) rfl rfl rfl rfl rfl (Nat.le_of_ble_eq_true rfl) (d_recv atM0 (by decide) (by decide)) rfl (m_X7_atom3 (Nat.le_trans (by decide) hd)  h) (fun r1 g2 => ?_)
  refine y_istore_n (lo' := [some (.ref 0), some (.int r1)]) (q := 5) rfl (Nat.le_of_ble_eq_true rfl) rfl rfl ?_
  refine lz_X7_term3_5 hd   _ (fun v1_9 g10 => ?_) fuel0 r1 g2 
  refine y_iload_n (q := 29) rfl rfl rfl ?_
  exact y_retI rfl (by decide) rfl rfl
def l_X7_added3_5  (k : Int32 → dH → Option (Int32 × dH)) : Nat → Int32 → dH → Option (Int32 × dH)
  | 0, _, _ => none
  | n + 1, v1, h => oP (f_X7_isSign 43 h) (fun r3 => if r3.toInt = 0 then (oP (f_X7_isSign 45 h) (fun r6 => if r6.toInt = 0 then (k v1 h) else (if (dlcmp (h 0 25).toInt64 43).toInt = 0 then (oV (f_X7_next  h) (fun g11 => oI (f_X7_term3  g11) (fun r12 g13 => l_X7_added3_5  k n (v1 + r12) g13))) else (oV (f_X7_next  h) (fun g14 => oI (f_X7_term3  g14) (fun r15 g16 => l_X7_added3_5  k n (v1 - r15) g16)))))) else (if (dlcmp (h 0 25).toInt64 43).toInt = 0 then (oV (f_X7_next  h) (fun g19 => oI (f_X7_term3  g19) (fun r20 g21 => l_X7_added3_5  k n (v1 + r20) g21))) else (oV (f_X7_next  h) (fun g22 => oI (f_X7_term3  g22) (fun r23 g24 => l_X7_added3_5  k n (v1 - r23) g24)))))
theorem lz_X7_added3_5 {d : Nat} (hd : 18 ≤ d)  (k : Int32 → dH → Option (Int32 × dH)) (hk : ∀ (v1 : Int32) (z2 : Option Value) (z3 : Option Value) (h : dH), dY shM d mj156 dI (k v1 h) 66 [some (.ref 0), some (.int v1), z2, z3] [] h) : ∀ (n : Nat) (v1 : Int32) (h : dH) (z2 : Option Value) (z3 : Option Value), dY shM d mj156 dI (l_X7_added3_5  k n v1 h) 5 [some (.ref 0), some (.int v1), z2, z3] [] h
  | 0, _, _, _, _ => dY_none
  | n + 1, v1, h, z2, z3 => by
    rw [l_X7_added3_5]
    refine y_aload_n (q := 6) rfl rfl rfl ?_
    refine y_bipush (x := 43) (q := 8) rfl (by decide) rfl ?_
    refine y_callP (I := .invokevirtual 234) (idx := 234) (KD := 1) (J := 149) (mj := mj139) (as := [.ref 0, .int 43]) (r := []) (q := 11) rfl (fun _ _ _ _ _ _ => rfl) rfl (by decide) rfl rfl rfl rfl rfl (Nat.le_of_ble_eq_true rfl) (d_recv atM0 (by decide) (by decide)) rfl (m_X7_isSign (Nat.le_trans (by decide) hd) 43 h) (fun r3 => ?_)
    refine y_ne0 (q := 23) (q' := 14) rfl rfl rfl rfl (fun c4 => ?_) (fun c5 => ?_)
    · skip
      refine y_aload_n (q := 15) rfl rfl rfl ?_
      refine y_bipush (x := 45) (q := 17) rfl (by decide) rfl ?_
      refine y_callP (I := .invokevirtual 234) (idx := 234) (KD := 1) (J := 149) (mj := mj139) (as := [.ref 0, .int 45]) (r := []) (q := 20) rfl (fun _ _ _ _ _ _ => rfl) rfl (by decide) rfl rfl rfl rfl rfl (Nat.le_of_ble_eq_true rfl) (d_recv atM0 (by decide) (by decide)) rfl (m_X7_isSign (Nat.le_trans (by decide) hd) 45 h) (fun r6 => ?_)
      refine y_eq0 (q := 66) (q' := 23) rfl rfl rfl rfl (fun c7 => ?_) (fun c8 => ?_)
      · skip
        exact hk v1 (z2) (z3) h
      · skip
        refine y_aload_n (q := 24) rfl rfl rfl ?_
        refine y_getL (q := 27) rfl rfl (by decide) atM0 rfl rfl ?_
        refine y_ldc2_w (u := 43) (q := 30) rfl rfl rfl ?_
        refine y_lcmp (q := 31) rfl rfl ?_
        refine y_ne0 (q := 38) (q' := 34) rfl rfl rfl rfl (fun c9 => ?_) (fun c10 => ?_)
        · skip
          refine y_iconst (x := 1) (q := 35) rfl (by decide) rfl ?_
          refine y_goto (q := 39) rfl rfl ?_
          refine y_istore_n (lo' := [some (.ref 0), some (.int v1), some (.int 1), z3]) (q := 40) rfl (Nat.le_of_ble_eq_true rfl) rfl rfl ?_
          refine y_aload_n (q := 41) rfl rfl rfl ?_
          refine y_callV (I := .invokevirtual 209) (idx := 209) (KD := 1) (J := 145) (mj := mj135) (as := [.ref 0]) (r := []) (q := 44) rfl (fun _ _ _ _ _ _ => rfl) rfl (by decide) rfl rfl rfl rfl rfl (Nat.le_of_ble_eq_true rfl) (d_recv atM0 (by decide) (by decide)) rfl (m_X7_next (Nat.le_trans (by decide) hd)  h) (fun g11 => ?_)
          refine y_aload_n (q := 45) rfl rfl rfl ?_
          refine y_callI (I := .invokevirtual 288) (idx := 288) (KD := 1) (J := 165) (mj := mj155) (as := [.ref 0]) (r := []) (q := 48) rfl (fun _ _ _ _ _ _ => rfl) rfl (by decide) rfl rfl rfl rfl rfl (Nat.le_of_ble_eq_true rfl) (d_recv atM0 (by decide) (by decide)) rfl (m_X7_term3 (Nat.le_trans (by decide) hd)  g11) (fun r12 g13 => ?_)
          refine y_istore_n (lo' := [some (.ref 0), some (.int v1), some (.int 1), some (.int r12)]) (q := 49) rfl (Nat.le_of_ble_eq_true rfl) rfl rfl ?_
          refine y_iload_n (q := 50) rfl rfl rfl ?_
          refine y_ifF (q := 53) rfl (by decide) rfl rfl ?_
          refine y_iload_n (q := 54) rfl rfl rfl ?_
          refine y_iload_n (q := 55) rfl rfl rfl ?_
          refine y_iadd (q := 56) rfl rfl ?_
          refine y_goto (q := 62) rfl rfl ?_
          refine y_istore_n (lo' := [some (.ref 0), some (.int (v1 + r12)), some (.int 1), some (.int r12)]) (q := 63) rfl (Nat.le_of_ble_eq_true rfl) rfl rfl ?_
          refine y_goto (q := 5) rfl rfl ?_
          exact lz_X7_added3_5 hd  k hk n (v1 + r12) g13 (some (.int 1)) (some (.int r12))
        · skip
          refine y_iconst (x := 0) (q := 39) rfl (by decide) rfl ?_
          refine y_istore_n (lo' := [some (.ref 0), some (.int v1), some (.int 0), z3]) (q := 40) rfl (Nat.le_of_ble_eq_true rfl) rfl rfl ?_
          refine y_aload_n (q := 41) rfl rfl rfl ?_
          refine y_callV (I := .invokevirtual 209) (idx := 209) (KD := 1) (J := 145) (mj := mj135) (as := [.ref 0]) (r := []) (q := 44) rfl (fun _ _ _ _ _ _ => rfl) rfl (by decide) rfl rfl rfl rfl rfl (Nat.le_of_ble_eq_true rfl) (d_recv atM0 (by decide) (by decide)) rfl (m_X7_next (Nat.le_trans (by decide) hd)  h) (fun g14 => ?_)
          refine y_aload_n (q := 45) rfl rfl rfl ?_
          refine y_callI (I := .invokevirtual 288) (idx := 288) (KD := 1) (J := 165) (mj := mj155) (as := [.ref 0]) (r := []) (q := 48) rfl (fun _ _ _ _ _ _ => rfl) rfl (by decide) rfl rfl rfl rfl rfl (Nat.le_of_ble_eq_true rfl) (d_recv atM0 (by decide) (by decide)) rfl (m_X7_term3 (Nat.le_trans (by decide) hd)  g14) (fun r15 g16 => ?_)
          refine y_istore_n (lo' := [some (.ref 0), some (.int v1), some (.int 0), some (.int r15)]) (q := 49) rfl (Nat.le_of_ble_eq_true rfl) rfl rfl ?_
          refine y_iload_n (q := 50) rfl rfl rfl ?_
          refine y_ifT (q := 59) rfl (by decide) rfl ?_
          refine y_iload_n (q := 60) rfl rfl rfl ?_
          refine y_iload_n (q := 61) rfl rfl rfl ?_
          refine y_isub (q := 62) rfl rfl ?_
          refine y_istore_n (lo' := [some (.ref 0), some (.int (v1 - r15)), some (.int 0), some (.int r15)]) (q := 63) rfl (Nat.le_of_ble_eq_true rfl) rfl rfl ?_
          refine y_goto (q := 5) rfl rfl ?_
          exact lz_X7_added3_5 hd  k hk n (v1 - r15) g16 (some (.int 0)) (some (.int r15))
    · skip
      refine y_aload_n (q := 24) rfl rfl rfl ?_
      refine y_getL (q := 27) rfl rfl (by decide) atM0 rfl rfl ?_
      refine y_ldc2_w (u := 43) (q := 30) rfl rfl rfl ?_
      refine y_lcmp (q := 31) rfl rfl ?_
      refine y_ne0 (q := 38) (q' := 34) rfl rfl rfl rfl (fun c17 => ?_) (fun c18 => ?_)
      · skip
        refine y_iconst (x := 1) (q := 35) rfl (by decide) rfl ?_
        refine y_goto (q := 39) rfl rfl ?_
        refine y_istore_n (lo' := [some (.ref 0), some (.int v1), some (.int 1), z3]) (q := 40) rfl (Nat.le_of_ble_eq_true rfl) rfl rfl ?_
        refine y_aload_n (q := 41) rfl rfl rfl ?_
        refine y_callV (I := .invokevirtual 209) (idx := 209) (KD := 1) (J := 145) (mj := mj135) (as := [.ref 0]) (r := []) (q := 44) rfl (fun _ _ _ _ _ _ => rfl) rfl (by decide) rfl rfl rfl rfl rfl (Nat.le_of_ble_eq_true rfl) (d_recv atM0 (by decide) (by decide)) rfl (m_X7_next (Nat.le_trans (by decide) hd)  h) (fun g19 => ?_)
        refine y_aload_n (q := 45) rfl rfl rfl ?_
        refine y_callI (I := .invokevirtual 288) (idx := 288) (KD := 1) (J := 165) (mj := mj155) (as := [.ref 0]) (r := []) (q := 48) rfl (fun _ _ _ _ _ _ => rfl) rfl (by decide) rfl rfl rfl rfl rfl (Nat.le_of_ble_eq_true rfl) (d_recv atM0 (by decide) (by decide)) rfl (m_X7_term3 (Nat.le_trans (by decide) hd)  g19) (fun r20 g21 => ?_)
        refine y_istore_n (lo' := [some (.ref 0), some (.int v1), some (.int 1), some (.int r20)]) (q := 49) rfl (Nat.le_of_ble_eq_true rfl) rfl rfl ?_
        refine y_iload_n (q := 50) rfl rfl rfl ?_
        refine y_ifF (q := 53) rfl (by decide) rfl rfl ?_
        refine y_iload_n (q := 54) rfl rfl rfl ?_
        refine y_iload_n (q := 55) rfl rfl rfl ?_
        refine y_iadd (q := 56) rfl rfl ?_
        refine y_goto (q := 62) rfl rfl ?_
        refine y_istore_n (lo' := [some (.ref 0), some (.int (v1 + r20)), some (.int 1), some (.int r20)]) (q := 63) rfl (Nat.le_of_ble_eq_true rfl) rfl rfl ?_
        refine y_goto (q := 5) rfl rfl ?_
        exact lz_X7_added3_5 hd  k hk n (v1 + r20) g21 (some (.int 1)) (some (.int r20))
      · skip
        refine y_iconst (x := 0) (q := 39) rfl (by decide) rfl ?_
        refine y_istore_n (lo' := [some (.ref 0), some (.int v1), some (.int 0), z3]) (q := 40) rfl (Nat.le_of_ble_eq_true rfl) rfl rfl ?_
        refine y_aload_n (q := 41) rfl rfl rfl ?_
        refine y_callV (I := .invokevirtual 209) (idx := 209) (KD := 1) (J := 145) (mj := mj135) (as := [.ref 0]) (r := []) (q := 44) rfl (fun _ _ _ _ _ _ => rfl) rfl (by decide) rfl rfl rfl rfl rfl (Nat.le_of_ble_eq_true rfl) (d_recv atM0 (by decide) (by decide)) rfl (m_X7_next (Nat.le_trans (by decide) hd)  h) (fun g22 => ?_)
        refine y_aload_n (q := 45) rfl rfl rfl ?_
        refine y_callI (I := .invokevirtual 288) (idx := 288) (KD := 1) (J := 165) (mj := mj155) (as := [.ref 0]) (r := []) (q := 48) rfl (fun _ _ _ _ _ _ => rfl) rfl (by decide) rfl rfl rfl rfl rfl (Nat.le_of_ble_eq_true rfl) (d_recv atM0 (by decide) (by decide)) rfl (m_X7_term3 (Nat.le_trans (by decide) hd)  g22) (fun r23 g24 => ?_)
        refine y_istore_n (lo' := [some (.ref 0), some (.int v1), some (.int 0), some (.int r23)]) (q := 49) rfl (Nat.le_of_ble_eq_true rfl) rfl rfl ?_
        refine y_iload_n (q := 50) rfl rfl rfl ?_
        refine y_ifT (q := 59) rfl (by decide) rfl ?_
        refine y_iload_n (q := 60) rfl rfl rfl ?_
        refine y_iload_n (q := 61) rfl rfl rfl ?_
        refine y_isub (q := 62) rfl rfl ?_
        refine y_istore_n (lo' := [some (.ref 0), some (.int (v1 - r23)), some (.int 0), some (.int r23)]) (q := 63) rfl (Nat.le_of_ble_eq_true rfl) rfl rfl ?_
        refine y_goto (q := 5) rfl rfl ?_
        exact lz_X7_added3_5 hd  k hk n (v1 - r23) g24 (some (.int 0)) (some (.int r23))
def f_X7_added3  (h : dH) : Option (Int32 × dH) := oI (f_X7_term3  h) (fun r1 g2 => l_X7_added3_5   (fun v1_25 g28 => some (v1_25, g28)) fuel0 r1 g2)
theorem m_X7_added3 {d : Nat} (hd : 19 ≤ d)  (h : dH) : dX shM d 156 [.ref 0] dI (f_X7_added3  h) h := by
  obtain ⟨e, rfl⟩ : ∃ e, d = e + 1 := ⟨d - 1, by omega⟩
  have hd : 18 ≤ e := by omega
  refine dX_of (mj := mj156) (lo := [some (.ref 0), none, none, none]) rfl (Nat.le_of_ble_eq_true rfl) rfl ?_
  unfold f_X7_added3
  refine y_aload_n (q := 1) rfl rfl rfl ?_
  refine y_callI (I := .invokevirtual 288) (idx := 288) (KD := 1) (J := 165) (mj := mj155) (as := [.ref 0]) (r := []) (q := 4) rfl (fun _ _ _ _ _ _ => rfl) rfl (by decide) rfl rfl rfl rfl rfl (Nat.le_of_ble_eq_true rfl) (d_recv atM0 (by decide) (by decide)) rfl (m_X7_term3 (Nat.le_trans (by decide) hd)  h) (fun r1 g2 => ?_)
  refine y_istore_n (lo' := [some (.ref 0), some (.int r1), none, none]) (q := 5) rfl (Nat.le_of_ble_eq_true rfl) rfl rfl ?_
  refine lz_X7_added3_5 hd   _ (fun v1_25 z26 z27 g28 => ?_) fuel0 r1 g2 (none) (none)
  refine y_iload_n (q := 67) rfl rfl rfl ?_
  exact y_retI rfl (by decide) rfl rfl
def f_X7_not3  (h : dH) : Option (Int32 × dH) := oP (f_X7_isWord 110 111 116 0 0 0 0 0 h) (fun r1 => if r1.toInt = 0 then (oI (f_X7_added3  h) (fun r4 g5 => oP (f_X7_isSign 60 g5) (fun r6 => if r6.toInt = 0 then (oP (f_X7_isSign 61 g5) (fun r9 => if r9.toInt = 0 then (some (r4, g5)) else (if (dlcmp (g5 0 25).toInt64 60).toInt = 0 then (oV (f_X7_next  g5) (fun g14 => oI (f_X7_added3  g14) (fun r15 g16 => if r4.toInt < r15.toInt then (some (1, g16)) else (some (0, g16))))) else (oV (f_X7_next  g5) (fun g19 => oI (f_X7_added3  g19) (fun r20 g21 => if r4.toInt = r20.toInt then (some (1, g21)) else (some (0, g21)))))))) else (if (dlcmp (g5 0 25).toInt64 60).toInt = 0 then (oV (f_X7_next  g5) (fun g26 => oI (f_X7_added3  g26) (fun r27 g28 => if r4.toInt < r27.toInt then (some (1, g28)) else (some (0, g28))))) else (oV (f_X7_next  g5) (fun g31 => oI (f_X7_added3  g31) (fun r32 g33 => if r4.toInt = r32.toInt then (some (1, g33)) else (some (0, g33))))))))) else (oI (f_X7_opens  h) (fun r36 g37 => if r36.toInt = 0 then (some (0, g37)) else (oI (f_X7_not4  g37) (fun r40 g41 => oH (dU g41 0 26 ((g41 0 26) - 1)) (fun g42 => if r40.toInt = 0 then (some (1, g42)) else (some (0, g42))))))))
theorem m_X7_not3 {d : Nat} (hd : 20 ≤ d)  (h : dH) : dX shM d 157 [.ref 0] dI (f_X7_not3  h) h := by
  obtain ⟨e, rfl⟩ : ∃ e, d = e + 1 := ⟨d - 1, by omega⟩
  have hd : 19 ≤ e := by omega
  refine dX_of (mj := mj157) (lo := [some (.ref 0), none, none, none]) rfl (Nat.le_of_ble_eq_true rfl) rfl ?_
  unfold f_X7_not3
  refine y_aload_n (q := 1) rfl rfl rfl ?_
  refine y_bipush (x := 110) (q := 3) rfl (by decide) rfl ?_
  refine y_bipush (x := 111) (q := 5) rfl (by decide) rfl ?_
  refine y_bipush (x := 116) (q := 7) rfl (by decide) rfl ?_
  refine y_iconst (x := 0) (q := 8) rfl (by decide) rfl ?_
  refine y_iconst (x := 0) (q := 9) rfl (by decide) rfl ?_
  refine y_iconst (x := 0) (q := 10) rfl (by decide) rfl ?_
  refine y_iconst (x := 0) (q := 11) rfl (by decide) rfl ?_
  refine y_iconst (x := 0) (q := 12) rfl (by decide) rfl ?_
  refine y_callP (I := .invokevirtual 212) (idx := 212) (KD := 1) (J := 148) (mj := mj138) (as := [.ref 0, .int 110, .int 111, .int 116, .int 0, .int 0, .int 0, .int 0, .int 0]) (r := []) (q := 15) rfl (fun _ _ _ _ _ _ => rfl) rfl (by decide) rfl rfl rfl rfl rfl (Nat.le_of_ble_eq_true rfl) (d_recv atM0 (by decide) (by decide)) rfl (m_X7_isWord (Nat.le_trans (by decide) hd) 110 111 116 0 0 0 0 0 h) (fun r1 => ?_)
  refine y_eq0 (q := 52) (q' := 18) rfl rfl rfl rfl (fun c2 => ?_) (fun c3 => ?_)
  · skip
    refine y_aload_n (q := 53) rfl rfl rfl ?_
    refine y_callI (I := .invokevirtual 291) (idx := 291) (KD := 1) (J := 166) (mj := mj156) (as := [.ref 0]) (r := []) (q := 56) rfl (fun _ _ _ _ _ _ => rfl) rfl (by decide) rfl rfl rfl rfl rfl (Nat.le_of_ble_eq_true rfl) (d_recv atM0 (by decide) (by decide)) rfl (m_X7_added3 (Nat.le_trans (by decide) hd)  h) (fun r4 g5 => ?_)
    refine y_istore_n (lo' := [some (.ref 0), some (.int r4), none, none]) (q := 57) rfl (Nat.le_of_ble_eq_true rfl) rfl rfl ?_
    refine y_aload_n (q := 58) rfl rfl rfl ?_
    refine y_bipush (x := 60) (q := 60) rfl (by decide) rfl ?_
    refine y_callP (I := .invokevirtual 234) (idx := 234) (KD := 1) (J := 149) (mj := mj139) (as := [.ref 0, .int 60]) (r := []) (q := 63) rfl (fun _ _ _ _ _ _ => rfl) rfl (by decide) rfl rfl rfl rfl rfl (Nat.le_of_ble_eq_true rfl) (d_recv atM0 (by decide) (by decide)) rfl (m_X7_isSign (Nat.le_trans (by decide) hd) 60 g5) (fun r6 => ?_)
    refine y_ne0 (q := 77) (q' := 66) rfl rfl rfl rfl (fun c7 => ?_) (fun c8 => ?_)
    · skip
      refine y_aload_n (q := 67) rfl rfl rfl ?_
      refine y_bipush (x := 61) (q := 69) rfl (by decide) rfl ?_
      refine y_callP (I := .invokevirtual 234) (idx := 234) (KD := 1) (J := 149) (mj := mj139) (as := [.ref 0, .int 61]) (r := []) (q := 72) rfl (fun _ _ _ _ _ _ => rfl) rfl (by decide) rfl rfl rfl rfl rfl (Nat.le_of_ble_eq_true rfl) (d_recv atM0 (by decide) (by decide)) rfl (m_X7_isSign (Nat.le_trans (by decide) hd) 61 g5) (fun r9 => ?_)
      refine y_ne0 (q := 77) (q' := 75) rfl rfl rfl rfl (fun c10 => ?_) (fun c11 => ?_)
      · skip
        refine y_iload_n (q := 76) rfl rfl rfl ?_
        exact y_retI rfl (by decide) rfl rfl
      · skip
        refine y_aload_n (q := 78) rfl rfl rfl ?_
        refine y_getL (q := 81) rfl rfl (by decide) atM0 rfl rfl ?_
        refine y_ldc2_w (u := 60) (q := 84) rfl rfl rfl ?_
        refine y_lcmp (q := 85) rfl rfl ?_
        refine y_ne0 (q := 92) (q' := 88) rfl rfl rfl rfl (fun c12 => ?_) (fun c13 => ?_)
        · skip
          refine y_iconst (x := 1) (q := 89) rfl (by decide) rfl ?_
          refine y_goto (q := 93) rfl rfl ?_
          refine y_istore_n (lo' := [some (.ref 0), some (.int r4), some (.int 1), none]) (q := 94) rfl (Nat.le_of_ble_eq_true rfl) rfl rfl ?_
          refine y_aload_n (q := 95) rfl rfl rfl ?_
          refine y_callV (I := .invokevirtual 209) (idx := 209) (KD := 1) (J := 145) (mj := mj135) (as := [.ref 0]) (r := []) (q := 98) rfl (fun _ _ _ _ _ _ => rfl) rfl (by decide) rfl rfl rfl rfl rfl (Nat.le_of_ble_eq_true rfl) (d_recv atM0 (by decide) (by decide)) rfl (m_X7_next (Nat.le_trans (by decide) hd)  g5) (fun g14 => ?_)
          refine y_aload_n (q := 99) rfl rfl rfl ?_
          refine y_callI (I := .invokevirtual 291) (idx := 291) (KD := 1) (J := 166) (mj := mj156) (as := [.ref 0]) (r := []) (q := 102) rfl (fun _ _ _ _ _ _ => rfl) rfl (by decide) rfl rfl rfl rfl rfl (Nat.le_of_ble_eq_true rfl) (d_recv atM0 (by decide) (by decide)) rfl (m_X7_added3 (Nat.le_trans (by decide) hd)  g14) (fun r15 g16 => ?_)
          refine y_istore_n (lo' := [some (.ref 0), some (.int r4), some (.int 1), some (.int r15)]) (q := 103) rfl (Nat.le_of_ble_eq_true rfl) rfl rfl ?_
          refine y_iload_n (q := 104) rfl rfl rfl ?_
          refine y_ifF (q := 107) rfl (by decide) rfl rfl ?_
          refine y_iload_n (q := 108) rfl rfl rfl ?_
          refine y_iload_n (q := 109) rfl rfl rfl ?_
          refine y_ge (q := 124) (q' := 112) rfl rfl rfl rfl rfl (fun c17 => ?_) (fun c18 => ?_)
          · skip
            refine y_goto (q := 120) rfl rfl ?_
            refine y_iconst (x := 1) (q := 121) rfl (by decide) rfl ?_
            refine y_goto (q := 125) rfl rfl ?_
            exact y_retI rfl (by decide) rfl rfl
          · skip
            refine y_iconst (x := 0) (q := 125) rfl (by decide) rfl ?_
            exact y_retI rfl (by decide) rfl rfl
        · skip
          refine y_iconst (x := 0) (q := 93) rfl (by decide) rfl ?_
          refine y_istore_n (lo' := [some (.ref 0), some (.int r4), some (.int 0), none]) (q := 94) rfl (Nat.le_of_ble_eq_true rfl) rfl rfl ?_
          refine y_aload_n (q := 95) rfl rfl rfl ?_
          refine y_callV (I := .invokevirtual 209) (idx := 209) (KD := 1) (J := 145) (mj := mj135) (as := [.ref 0]) (r := []) (q := 98) rfl (fun _ _ _ _ _ _ => rfl) rfl (by decide) rfl rfl rfl rfl rfl (Nat.le_of_ble_eq_true rfl) (d_recv atM0 (by decide) (by decide)) rfl (m_X7_next (Nat.le_trans (by decide) hd)  g5) (fun g19 => ?_)
          refine y_aload_n (q := 99) rfl rfl rfl ?_
          refine y_callI (I := .invokevirtual 291) (idx := 291) (KD := 1) (J := 166) (mj := mj156) (as := [.ref 0]) (r := []) (q := 102) rfl (fun _ _ _ _ _ _ => rfl) rfl (by decide) rfl rfl rfl rfl rfl (Nat.le_of_ble_eq_true rfl) (d_recv atM0 (by decide) (by decide)) rfl (m_X7_added3 (Nat.le_trans (by decide) hd)  g19) (fun r20 g21 => ?_)
          refine y_istore_n (lo' := [some (.ref 0), some (.int r4), some (.int 0), some (.int r20)]) (q := 103) rfl (Nat.le_of_ble_eq_true rfl) rfl rfl ?_
          refine y_iload_n (q := 104) rfl rfl rfl ?_
          refine y_ifT (q := 115) rfl (by decide) rfl ?_
          refine y_iload_n (q := 116) rfl rfl rfl ?_
          refine y_iload_n (q := 117) rfl rfl rfl ?_
          refine y_ne (q := 124) (q' := 120) rfl rfl rfl rfl rfl (fun c22 => ?_) (fun c23 => ?_)
          · skip
            refine y_iconst (x := 1) (q := 121) rfl (by decide) rfl ?_
            refine y_goto (q := 125) rfl rfl ?_
            exact y_retI rfl (by decide) rfl rfl
          · skip
            refine y_iconst (x := 0) (q := 125) rfl (by decide) rfl ?_
            exact y_retI rfl (by decide) rfl rfl
    · skip
      refine y_aload_n (q := 78) rfl rfl rfl ?_
      refine y_getL (q := 81) rfl rfl (by decide) atM0 rfl rfl ?_
      refine y_ldc2_w (u := 60) (q := 84) rfl rfl rfl ?_
      refine y_lcmp (q := 85) rfl rfl ?_
      refine y_ne0 (q := 92) (q' := 88) rfl rfl rfl rfl (fun c24 => ?_) (fun c25 => ?_)
      · skip
        refine y_iconst (x := 1) (q := 89) rfl (by decide) rfl ?_
        refine y_goto (q := 93) rfl rfl ?_
        refine y_istore_n (lo' := [some (.ref 0), some (.int r4), some (.int 1), none]) (q := 94) rfl (Nat.le_of_ble_eq_true rfl) rfl rfl ?_
        refine y_aload_n (q := 95) rfl rfl rfl ?_
        refine y_callV (I := .invokevirtual 209) (idx := 209) (KD := 1) (J := 145) (mj := mj135) (as := [.ref 0]) (r := []) (q := 98) rfl (fun _ _ _ _ _ _ => rfl) rfl (by decide) rfl rfl rfl rfl rfl (Nat.le_of_ble_eq_true rfl) (d_recv atM0 (by decide) (by decide)) rfl (m_X7_next (Nat.le_trans (by decide) hd)  g5) (fun g26 => ?_)
        refine y_aload_n (q := 99) rfl rfl rfl ?_
        refine y_callI (I := .invokevirtual 291) (idx := 291) (KD := 1) (J := 166) (mj := mj156) (as := [.ref 0]) (r := []) (q := 102) rfl (fun _ _ _ _ _ _ => rfl) rfl (by decide) rfl rfl rfl rfl rfl (Nat.le_of_ble_eq_true rfl) (d_recv atM0 (by decide) (by decide)) rfl (m_X7_added3 (Nat.le_trans (by decide) hd)  g26) (fun r27 g28 => ?_)
        refine y_istore_n (lo' := [some (.ref 0), some (.int r4), some (.int 1), some (.int r27)]) (q := 103) rfl (Nat.le_of_ble_eq_true rfl) rfl rfl ?_
        refine y_iload_n (q := 104) rfl rfl rfl ?_
        refine y_ifF (q := 107) rfl (by decide) rfl rfl ?_
        refine y_iload_n (q := 108) rfl rfl rfl ?_
        refine y_iload_n (q := 109) rfl rfl rfl ?_
        refine y_ge (q := 124) (q' := 112) rfl rfl rfl rfl rfl (fun c29 => ?_) (fun c30 => ?_)
        · skip
          refine y_goto (q := 120) rfl rfl ?_
          refine y_iconst (x := 1) (q := 121) rfl (by decide) rfl ?_
          refine y_goto (q := 125) rfl rfl ?_
          exact y_retI rfl (by decide) rfl rfl
        · skip
          refine y_iconst (x := 0) (q := 125) rfl (by decide) rfl ?_
          exact y_retI rfl (by decide) rfl rfl
      · skip
        refine y_iconst (x := 0) (q := 93) rfl (by decide) rfl ?_
        refine y_istore_n (lo' := [some (.ref 0), some (.int r4), some (.int 0), none]) (q := 94) rfl (Nat.le_of_ble_eq_true rfl) rfl rfl ?_
        refine y_aload_n (q := 95) rfl rfl rfl ?_
        refine y_callV (I := .invokevirtual 209) (idx := 209) (KD := 1) (J := 145) (mj := mj135) (as := [.ref 0]) (r := []) (q := 98) rfl (fun _ _ _ _ _ _ => rfl) rfl (by decide) rfl rfl rfl rfl rfl (Nat.le_of_ble_eq_true rfl) (d_recv atM0 (by decide) (by decide)) rfl (m_X7_next (Nat.le_trans (by decide) hd)  g5) (fun g31 => ?_)
        refine y_aload_n (q := 99) rfl rfl rfl ?_
        refine y_callI (I := .invokevirtual 291) (idx := 291) (KD := 1) (J := 166) (mj := mj156) (as := [.ref 0]) (r := []) (q := 102) rfl (fun _ _ _ _ _ _ => rfl) rfl (by decide) rfl rfl rfl rfl rfl (Nat.le_of_ble_eq_true rfl) (d_recv atM0 (by decide) (by decide)) rfl (m_X7_added3 (Nat.le_trans (by decide) hd)  g31) (fun r32 g33 => ?_)
        refine y_istore_n (lo' := [some (.ref 0), some (.int r4), some (.int 0), some (.int r32)]) (q := 103) rfl (Nat.le_of_ble_eq_true rfl) rfl rfl ?_
        refine y_iload_n (q := 104) rfl rfl rfl ?_
        refine y_ifT (q := 115) rfl (by decide) rfl ?_
        refine y_iload_n (q := 116) rfl rfl rfl ?_
        refine y_iload_n (q := 117) rfl rfl rfl ?_
        refine y_ne (q := 124) (q' := 120) rfl rfl rfl rfl rfl (fun c34 => ?_) (fun c35 => ?_)
        · skip
          refine y_iconst (x := 1) (q := 121) rfl (by decide) rfl ?_
          refine y_goto (q := 125) rfl rfl ?_
          exact y_retI rfl (by decide) rfl rfl
        · skip
          refine y_iconst (x := 0) (q := 125) rfl (by decide) rfl ?_
          exact y_retI rfl (by decide) rfl rfl
  · skip
    refine y_aload_n (q := 19) rfl rfl rfl ?_
    refine y_callI (I := .invokevirtual 237) (idx := 237) (KD := 1) (J := 150) (mj := mj140) (as := [.ref 0]) (r := []) (q := 22) rfl (fun _ _ _ _ _ _ => rfl) rfl (by decide) rfl rfl rfl rfl rfl (Nat.le_of_ble_eq_true rfl) (d_recv atM0 (by decide) (by decide)) rfl (m_X7_opens (Nat.le_trans (by decide) hd)  h) (fun r36 g37 => ?_)
    refine y_ne0 (q := 27) (q' := 25) rfl rfl rfl rfl (fun c38 => ?_) (fun c39 => ?_)
    · skip
      refine y_iconst (x := 0) (q := 26) rfl (by decide) rfl ?_
      exact y_retI rfl (by decide) rfl rfl
    · skip
      refine y_aload_n (q := 28) rfl rfl rfl ?_
      refine y_callI (I := .invokevirtual 276) (idx := 276) (KD := 1) (J := 161) (mj := mj151) (as := [.ref 0]) (r := []) (q := 31) rfl (fun _ _ _ _ _ _ => rfl) rfl (by decide) rfl rfl rfl rfl rfl (Nat.le_of_ble_eq_true rfl) (d_recv atM0 (by decide) (by decide)) rfl (m_X7_not4 (Nat.le_trans (by decide) hd)  g37) (fun r40 g41 => ?_)
      refine y_istore_n (lo' := [some (.ref 0), some (.int r40), none, none]) (q := 32) rfl (Nat.le_of_ble_eq_true rfl) rfl rfl ?_
      refine y_aload_n (q := 33) rfl rfl rfl ?_
      refine y_dup (q := 34) rfl rfl ?_
      refine y_getI (q := 37) rfl rfl (by decide) atM0 rfl rfl ?_
      refine y_iconst (x := 1) (q := 38) rfl (by decide) rfl ?_
      refine y_isub (q := 39) rfl rfl ?_
      refine y_putI (q := 42) rfl rfl (by decide) atM0 rfl rfl rfl rfl (fun g42 => ?_)
      refine y_iload_n (q := 43) rfl rfl rfl ?_
      refine y_ne0 (q := 50) (q' := 46) rfl rfl rfl rfl (fun c43 => ?_) (fun c44 => ?_)
      · skip
        refine y_iconst (x := 1) (q := 47) rfl (by decide) rfl ?_
        refine y_goto (q := 51) rfl rfl ?_
        exact y_retI rfl (by decide) rfl rfl
      · skip
        refine y_iconst (x := 0) (q := 51) rfl (by decide) rfl ?_
        exact y_retI rfl (by decide) rfl rfl
def l_X7_both3_5  (k : Int32 → dH → Option (Int32 × dH)) : Nat → Int32 → dH → Option (Int32 × dH)
  | 0, _, _ => none
  | n + 1, v1, h => oP (f_X7_isWord 97 110 100 0 0 0 0 0 h) (fun r3 => if r3.toInt = 0 then (k v1 h) else (oV (f_X7_next  h) (fun g6 => oI (f_X7_not3  g6) (fun r7 g8 => if v1.toInt = 0 then (l_X7_both3_5  k n 0 g8) else (if r7.toInt = 0 then (l_X7_both3_5  k n 0 g8) else (l_X7_both3_5  k n 1 g8))))))
theorem lz_X7_both3_5 {d : Nat} (hd : 20 ≤ d)  (k : Int32 → dH → Option (Int32 × dH)) (hk : ∀ (v1 : Int32) (z2 : Option Value) (h : dH), dY shM d mj158 dI (k v1 h) 49 [some (.ref 0), some (.int v1), z2] [] h) : ∀ (n : Nat) (v1 : Int32) (h : dH) (z2 : Option Value), dY shM d mj158 dI (l_X7_both3_5  k n v1 h) 5 [some (.ref 0), some (.int v1), z2] [] h
  | 0, _, _, _ => dY_none
  | n + 1, v1, h, z2 => by
    rw [l_X7_both3_5]
    refine y_aload_n (q := 6) rfl rfl rfl ?_
    refine y_bipush (x := 97) (q := 8) rfl (by decide) rfl ?_
    refine y_bipush (x := 110) (q := 10) rfl (by decide) rfl ?_
    refine y_bipush (x := 100) (q := 12) rfl (by decide) rfl ?_
    refine y_iconst (x := 0) (q := 13) rfl (by decide) rfl ?_
    refine y_iconst (x := 0) (q := 14) rfl (by decide) rfl ?_
    refine y_iconst (x := 0) (q := 15) rfl (by decide) rfl ?_
    refine y_iconst (x := 0) (q := 16) rfl (by decide) rfl ?_
    refine y_iconst (x := 0) (q := 17) rfl (by decide) rfl ?_
    refine y_callP (I := .invokevirtual 212) (idx := 212) (KD := 1) (J := 148) (mj := mj138) (as := [.ref 0, .int 97, .int 110, .int 100, .int 0, .int 0, .int 0, .int 0, .int 0]) (r := []) (q := 20) rfl (fun _ _ _ _ _ _ => rfl) rfl (by decide) rfl rfl rfl rfl rfl (Nat.le_of_ble_eq_true rfl) (d_recv atM0 (by decide) (by decide)) rfl (m_X7_isWord (Nat.le_trans (by decide) hd) 97 110 100 0 0 0 0 0 h) (fun r3 => ?_)
    refine y_eq0 (q := 49) (q' := 23) rfl rfl rfl rfl (fun c4 => ?_) (fun c5 => ?_)
    · skip
      exact hk v1 (z2) h
    · skip
      refine y_aload_n (q := 24) rfl rfl rfl ?_
      refine y_callV (I := .invokevirtual 209) (idx := 209) (KD := 1) (J := 145) (mj := mj135) (as := [.ref 0]) (r := []) (q := 27) rfl (fun _ _ _ _ _ _ => rfl) rfl (by decide) rfl rfl rfl rfl rfl (Nat.le_of_ble_eq_true rfl) (d_recv atM0 (by decide) (by decide)) rfl (m_X7_next (Nat.le_trans (by decide) hd)  h) (fun g6 => ?_)
      refine y_aload_n (q := 28) rfl rfl rfl ?_
      refine y_callI (I := .invokevirtual 294) (idx := 294) (KD := 1) (J := 167) (mj := mj157) (as := [.ref 0]) (r := []) (q := 31) rfl (fun _ _ _ _ _ _ => rfl) rfl (by decide) rfl rfl rfl rfl rfl (Nat.le_of_ble_eq_true rfl) (d_recv atM0 (by decide) (by decide)) rfl (m_X7_not3 (Nat.le_trans (by decide) hd)  g6) (fun r7 g8 => ?_)
      refine y_istore_n (lo' := [some (.ref 0), some (.int v1), some (.int r7)]) (q := 32) rfl (Nat.le_of_ble_eq_true rfl) rfl rfl ?_
      refine y_iload_n (q := 33) rfl rfl rfl ?_
      refine y_eq0 (q := 44) (q' := 36) rfl rfl rfl rfl (fun c9 => ?_) (fun c10 => ?_)
      · skip
        refine y_iconst (x := 0) (q := 45) rfl (by decide) rfl ?_
        refine y_istore_n (lo' := [some (.ref 0), some (.int 0), some (.int r7)]) (q := 46) rfl (Nat.le_of_ble_eq_true rfl) rfl rfl ?_
        refine y_goto (q := 5) rfl rfl ?_
        exact lz_X7_both3_5 hd  k hk n 0 g8 (some (.int r7))
      · skip
        refine y_iload_n (q := 37) rfl rfl rfl ?_
        refine y_eq0 (q := 44) (q' := 40) rfl rfl rfl rfl (fun c11 => ?_) (fun c12 => ?_)
        · skip
          refine y_iconst (x := 0) (q := 45) rfl (by decide) rfl ?_
          refine y_istore_n (lo' := [some (.ref 0), some (.int 0), some (.int r7)]) (q := 46) rfl (Nat.le_of_ble_eq_true rfl) rfl rfl ?_
          refine y_goto (q := 5) rfl rfl ?_
          exact lz_X7_both3_5 hd  k hk n 0 g8 (some (.int r7))
        · skip
          refine y_iconst (x := 1) (q := 41) rfl (by decide) rfl ?_
          refine y_goto (q := 45) rfl rfl ?_
          refine y_istore_n (lo' := [some (.ref 0), some (.int 1), some (.int r7)]) (q := 46) rfl (Nat.le_of_ble_eq_true rfl) rfl rfl ?_
          refine y_goto (q := 5) rfl rfl ?_
          exact lz_X7_both3_5 hd  k hk n 1 g8 (some (.int r7))
def f_X7_both3  (h : dH) : Option (Int32 × dH) := oI (f_X7_not3  h) (fun r1 g2 => l_X7_both3_5   (fun v1_13 g15 => some (v1_13, g15)) fuel0 r1 g2)
theorem m_X7_both3 {d : Nat} (hd : 21 ≤ d)  (h : dH) : dX shM d 158 [.ref 0] dI (f_X7_both3  h) h := by
  obtain ⟨e, rfl⟩ : ∃ e, d = e + 1 := ⟨d - 1, by omega⟩
  have hd : 20 ≤ e := by omega
  refine dX_of (mj := mj158) (lo := [some (.ref 0), none, none]) rfl (Nat.le_of_ble_eq_true rfl) rfl ?_
  unfold f_X7_both3
  refine y_aload_n (q := 1) rfl rfl rfl ?_
  refine y_callI (I := .invokevirtual 294) (idx := 294) (KD := 1) (J := 167) (mj := mj157) (as := [.ref 0]) (r := []) (q := 4) rfl (fun _ _ _ _ _ _ => rfl) rfl (by decide) rfl rfl rfl rfl rfl (Nat.le_of_ble_eq_true rfl) (d_recv atM0 (by decide) (by decide)) rfl (m_X7_not3 (Nat.le_trans (by decide) hd)  h) (fun r1 g2 => ?_)
  refine y_istore_n (lo' := [some (.ref 0), some (.int r1), none]) (q := 5) rfl (Nat.le_of_ble_eq_true rfl) rfl rfl ?_
  refine lz_X7_both3_5 hd   _ (fun v1_13 z14 g15 => ?_) fuel0 r1 g2 (none)
  refine y_iload_n (q := 50) rfl rfl rfl ?_
  exact y_retI rfl (by decide) rfl rfl
end
