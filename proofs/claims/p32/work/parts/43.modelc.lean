section
/-! X7_either3, X7_atom2, X7_term2, X7_added2, X7_not2, X7_both2, X7_either2, X7_atom1, X7_term1, X7_added1, X7_not1, X7_both1, X7_either1 (by program) -/
noncomputable section
def l_X7_either3_5  (k : Int32 → dH → Option (Int32 × dH)) : Nat → Int32 → dH → Option (Int32 × dH)
  | 0, _, _ => none
  | n + 1, v1, h => oP (f_X7_isWord 111 114 0 0 0 0 0 0 h) (fun r3 => if r3.toInt = 0 then (k v1 h) else (oV (f_X7_next  h) (fun g6 => oI (f_X7_both3  g6) (fun r7 g8 => if v1.toInt = 0 then (if r7.toInt = 0 then (l_X7_either3_5  k n 0 g8) else (l_X7_either3_5  k n 1 g8)) else (l_X7_either3_5  k n 1 g8)))))
theorem lz_X7_either3_5 {d : Nat} (hd : 21 ≤ d)  (k : Int32 → dH → Option (Int32 × dH)) (hk : ∀ (v1 : Int32) (z2 : Option Value) (h : dH), dY shM d mj159 dI (k v1 h) 48 [some (.ref 0), some (.int v1), z2] [] h) : ∀ (n : Nat) (v1 : Int32) (h : dH) (z2 : Option Value), dY shM d mj159 dI (l_X7_either3_5  k n v1 h) 5 [some (.ref 0), some (.int v1), z2] [] h
  | 0, _, _, _ => dY_none
  | n + 1, v1, h, z2 => by
    rw [l_X7_either3_5]
    refine y_aload_n (q := 6) rfl rfl rfl ?_
    refine y_bipush (x := 111) (q := 8) rfl (by decide) rfl ?_
    refine y_bipush (x := 114) (q := 10) rfl (by decide) rfl ?_
    refine y_iconst (x := 0) (q := 11) rfl (by decide) rfl ?_
    refine y_iconst (x := 0) (q := 12) rfl (by decide) rfl ?_
    refine y_iconst (x := 0) (q := 13) rfl (by decide) rfl ?_
    refine y_iconst (x := 0) (q := 14) rfl (by decide) rfl ?_
    refine y_iconst (x := 0) (q := 15) rfl (by decide) rfl ?_
    refine y_iconst (x := 0) (q := 16) rfl (by decide) rfl ?_
    refine y_callP (I := .invokevirtual 212) (idx := 212) (KD := 1) (J := 148) (mj := mj138) (as := [.ref 0, .int 111, .int 114, .int 0, .int 0, .int 0, .int 0, .int 0, .int 0]) (r := []) (q := 19) rfl (fun _ _ _ _ _ _ => rfl) rfl (by decide) rfl rfl rfl rfl rfl (Nat.le_of_ble_eq_true rfl) (d_recv atM0 (by decide) (by decide)) rfl (m_X7_isWord (Nat.le_trans (by decide) hd) 111 114 0 0 0 0 0 0 h) (fun r3 => ?_)
    refine y_eq0 (q := 48) (q' := 22) rfl rfl rfl rfl (fun c4 => ?_) (fun c5 => ?_)
    · skip
      exact hk v1 (z2) h
    · skip
      refine y_aload_n (q := 23) rfl rfl rfl ?_
      refine y_callV (I := .invokevirtual 209) (idx := 209) (KD := 1) (J := 145) (mj := mj135) (as := [.ref 0]) (r := []) (q := 26) rfl (fun _ _ _ _ _ _ => rfl) rfl (by decide) rfl rfl rfl rfl rfl (Nat.le_of_ble_eq_true rfl) (d_recv atM0 (by decide) (by decide)) rfl (m_X7_next (Nat.le_trans (by decide) hd)  h) (fun g6 => ?_)
      refine y_aload_n (q := 27) rfl rfl rfl ?_
      refine y_callI (I := .invokevirtual 297) (idx := 297) (KD := 1) (J := 168) (mj := mj158) (as := [.ref 0]) (r := []) (q := 30) rfl (fun _ _ _ _ _ _ => rfl) rfl (by decide) rfl rfl rfl rfl rfl (Nat.le_of_ble_eq_true rfl) (d_recv atM0 (by decide) (by decide)) rfl (m_X7_both3 (Nat.le_trans (by decide) hd)  g6) (fun r7 g8 => ?_)
      refine y_istore_n (lo' := [some (.ref 0), some (.int v1), some (.int r7)]) (q := 31) rfl (Nat.le_of_ble_eq_true rfl) rfl rfl ?_
      refine y_iload_n (q := 32) rfl rfl rfl ?_
      refine y_ne0 (q := 39) (q' := 35) rfl rfl rfl rfl (fun c9 => ?_) (fun c10 => ?_)
      · skip
        refine y_iload_n (q := 36) rfl rfl rfl ?_
        refine y_eq0 (q := 43) (q' := 39) rfl rfl rfl rfl (fun c11 => ?_) (fun c12 => ?_)
        · skip
          refine y_iconst (x := 0) (q := 44) rfl (by decide) rfl ?_
          refine y_istore_n (lo' := [some (.ref 0), some (.int 0), some (.int r7)]) (q := 45) rfl (Nat.le_of_ble_eq_true rfl) rfl rfl ?_
          refine y_goto (q := 5) rfl rfl ?_
          exact lz_X7_either3_5 hd  k hk n 0 g8 (some (.int r7))
        · skip
          refine y_iconst (x := 1) (q := 40) rfl (by decide) rfl ?_
          refine y_goto (q := 44) rfl rfl ?_
          refine y_istore_n (lo' := [some (.ref 0), some (.int 1), some (.int r7)]) (q := 45) rfl (Nat.le_of_ble_eq_true rfl) rfl rfl ?_
          refine y_goto (q := 5) rfl rfl ?_
          exact lz_X7_either3_5 hd  k hk n 1 g8 (some (.int r7))
      · skip
        refine y_iconst (x := 1) (q := 40) rfl (by decide) rfl ?_
        refine y_goto (q := 44) rfl rfl ?_
        refine y_istore_n (lo' := [some (.ref 0), some (.int 1), some (.int r7)]) (q := 45) rfl (Nat.le_of_ble_eq_true rfl) rfl rfl ?_
        refine y_goto (q := 5) rfl rfl ?_
        exact lz_X7_either3_5 hd  k hk n 1 g8 (some (.int r7))
def f_X7_either3  (h : dH) : Option (Int32 × dH) := oI (f_X7_both3  h) (fun r1 g2 => l_X7_either3_5   (fun v1_13 g15 => some (v1_13, g15)) fuel0 r1 g2)
theorem m_X7_either3 {d : Nat} (hd : 22 ≤ d)  (h : dH) : dX shM d 159 [.ref 0] dI (f_X7_either3  h) h := by
  obtain ⟨e, rfl⟩ : ∃ e, d = e + 1 := ⟨d - 1, by omega⟩
  have hd : 21 ≤ e := by omega
  refine dX_of (mj := mj159) (lo := [some (.ref 0), none, none]) rfl (Nat.le_of_ble_eq_true rfl) rfl ?_
  unfold f_X7_either3
  refine y_aload_n (q := 1) rfl rfl rfl ?_
  refine y_callI (I := .invokevirtual 297) (idx := 297) (KD := 1) (J := 168) (mj := mj158) (as := [.ref 0]) (r := []) (q := 4) rfl (fun _ _ _ _ _ _ => rfl) rfl (by decide) rfl rfl rfl rfl rfl (Nat.le_of_ble_eq_true rfl) (d_recv atM0 (by decide) (by decide)) rfl (m_X7_both3 (Nat.le_trans (by decide) hd)  h) (fun r1 g2 => ?_)
  refine y_istore_n (lo' := [some (.ref 0), some (.int r1), none]) (q := 5) rfl (Nat.le_of_ble_eq_true rfl) rfl rfl ?_
  refine lz_X7_either3_5 hd   _ (fun v1_13 z14 g15 => ?_) fuel0 r1 g2 (none)
  refine y_iload_n (q := 49) rfl rfl rfl ?_
  exact y_retI rfl (by decide) rfl rfl
def f_X7_atom2  (h : dH) : Option (Int32 × dH) := oP (f_X7_isSign 45 h) (fun r1 => if r1.toInt = 0 then (oP (f_X7_isSign 40 h) (fun r4 => if r4.toInt = 0 then (if (h 0 27).toInt = 0 then (if (h 0 23).toInt = 2 then (oV (f_X7_next  h) (fun g11 => some ((h 0 25).toInt64.toInt32, g11))) else (if (h 0 27).toInt = 0 then (if (h 0 23).toInt = 1 then (oI (f_X7_name  h) (fun r16 g17 => if (g17 0 27).toInt = 0 then (oV (f_X7_next  g17) (fun g20 => some (r16, g20))) else (some (r16, g17)))) else (oV (f_X7_fail  h) (fun g21 => some (0, g21)))) else (oV (f_X7_fail  h) (fun g22 => some (0, g22))))) else (if (h 0 27).toInt = 0 then (if (h 0 23).toInt = 1 then (oI (f_X7_name  h) (fun r27 g28 => if (g28 0 27).toInt = 0 then (oV (f_X7_next  g28) (fun g31 => some (r27, g31))) else (some (r27, g28)))) else (oV (f_X7_fail  h) (fun g32 => some (0, g32)))) else (oV (f_X7_fail  h) (fun g33 => some (0, g33))))) else (oI (f_X7_opens  h) (fun r34 g35 => if r34.toInt = 0 then (some (0, g35)) else (oI (f_X7_either3  g35) (fun r38 g39 => oP (f_X7_isSign 41 g39) (fun r40 => if r40.toInt = 0 then (oV (f_X7_fail  g39) (fun g43 => oH (dU g43 0 26 ((g43 0 26) - 1)) (fun g44 => if (g44 0 27).toInt = 0 then (oV (f_X7_next  g44) (fun g47 => some (r38, g47))) else (some (r38, g44))))) else (oH (dU g39 0 26 ((g39 0 26) - 1)) (fun g48 => if (g48 0 27).toInt = 0 then (oV (f_X7_next  g48) (fun g51 => some (r38, g51))) else (some (r38, g48))))))))))) else (oI (f_X7_opens  h) (fun r52 g53 => if r52.toInt = 0 then (some (0, g53)) else (oI (f_X7_atom3  g53) (fun r56 g57 => oH (dU g57 0 26 ((g57 0 26) - 1)) (fun g58 => some ((-r56), g58)))))))
theorem m_X7_atom2 {d : Nat} (hd : 23 ≤ d)  (h : dH) : dX shM d 160 [.ref 0] dI (f_X7_atom2  h) h := by
  obtain ⟨e, rfl⟩ : ∃ e, d = e + 1 := ⟨d - 1, by omega⟩
  have hd : 22 ≤ e := by omega
  refine dX_of (mj := mj160) (lo := [some (.ref 0), none]) rfl (Nat.le_of_ble_eq_true rfl) rfl ?_
  unfold f_X7_atom2
  refine y_iconst (x := 0) (q := 1) rfl (by decide) rfl ?_
  refine y_istore_n (lo' := [some (.ref 0), some (.int 0)]) (q := 2) rfl (Nat.le_of_ble_eq_true rfl) rfl rfl ?_
  refine y_aload_n (q := 3) rfl rfl rfl ?_
  refine y_bipush (x := 45) (q := 5) rfl (by decide) rfl ?_
  refine y_callP (I := .invokevirtual 234) (idx := 234) (KD := 1) (J := 149) (mj := mj139) (as := [.ref 0, .int 45]) (r := []) (q := 8) rfl (fun _ _ _ _ _ _ => rfl) rfl (by decide) rfl rfl rfl rfl rfl (Nat.le_of_ble_eq_true rfl) (d_recv atM0 (by decide) (by decide)) rfl (m_X7_isSign (Nat.le_trans (by decide) hd) 45 h) (fun r1 => ?_)
  refine y_eq0 (q := 37) (q' := 11) rfl rfl rfl rfl (fun c2 => ?_) (fun c3 => ?_)
  · skip
    refine y_aload_n (q := 38) rfl rfl rfl ?_
    refine y_bipush (x := 40) (q := 40) rfl (by decide) rfl ?_
    refine y_callP (I := .invokevirtual 234) (idx := 234) (KD := 1) (J := 149) (mj := mj139) (as := [.ref 0, .int 40]) (r := []) (q := 43) rfl (fun _ _ _ _ _ _ => rfl) rfl (by decide) rfl rfl rfl rfl rfl (Nat.le_of_ble_eq_true rfl) (d_recv atM0 (by decide) (by decide)) rfl (m_X7_isSign (Nat.le_trans (by decide) hd) 40 h) (fun r4 => ?_)
    refine y_eq0 (q := 95) (q' := 46) rfl rfl rfl rfl (fun c5 => ?_) (fun c6 => ?_)
    · skip
      refine y_aload_n (q := 96) rfl rfl rfl ?_
      refine y_getI (q := 99) rfl rfl (by decide) atM0 rfl rfl ?_
      refine y_ne0 (q := 123) (q' := 102) rfl rfl rfl rfl (fun c7 => ?_) (fun c8 => ?_)
      · skip
        refine y_aload_n (q := 103) rfl rfl rfl ?_
        refine y_getI (q := 106) rfl rfl (by decide) atM0 rfl rfl ?_
        refine y_iconst (x := 2) (q := 107) rfl (by decide) rfl ?_
        refine y_ne (q := 123) (q' := 110) rfl rfl (by decide) rfl rfl (fun c9 => ?_) (fun c10 => ?_)
        · skip
          refine y_aload_n (q := 111) rfl rfl rfl ?_
          refine y_getL (q := 114) rfl rfl (by decide) atM0 rfl rfl ?_
          refine y_l2i (q := 115) rfl rfl ?_
          refine y_istore_n (lo' := [some (.ref 0), some (.int (h 0 25).toInt64.toInt32)]) (q := 116) rfl (Nat.le_of_ble_eq_true rfl) rfl rfl ?_
          refine y_aload_n (q := 117) rfl rfl rfl ?_
          refine y_callV (I := .invokevirtual 209) (idx := 209) (KD := 1) (J := 145) (mj := mj135) (as := [.ref 0]) (r := []) (q := 120) rfl (fun _ _ _ _ _ _ => rfl) rfl (by decide) rfl rfl rfl rfl rfl (Nat.le_of_ble_eq_true rfl) (d_recv atM0 (by decide) (by decide)) rfl (m_X7_next (Nat.le_trans (by decide) hd)  h) (fun g11 => ?_)
          refine y_goto (q := 161) rfl rfl ?_
          refine y_iload_n (q := 162) rfl rfl rfl ?_
          exact y_retI rfl (by decide) rfl rfl
        · skip
          refine y_aload_n (q := 124) rfl rfl rfl ?_
          refine y_getI (q := 127) rfl rfl (by decide) atM0 rfl rfl ?_
          refine y_ne0 (q := 157) (q' := 130) rfl rfl rfl rfl (fun c12 => ?_) (fun c13 => ?_)
          · skip
            refine y_aload_n (q := 131) rfl rfl rfl ?_
            refine y_getI (q := 134) rfl rfl (by decide) atM0 rfl rfl ?_
            refine y_iconst (x := 1) (q := 135) rfl (by decide) rfl ?_
            refine y_ne (q := 157) (q' := 138) rfl rfl (by decide) rfl rfl (fun c14 => ?_) (fun c15 => ?_)
            · skip
              refine y_aload_n (q := 139) rfl rfl rfl ?_
              refine y_callI (I := .invokevirtual 241) (idx := 241) (KD := 1) (J := 151) (mj := mj141) (as := [.ref 0]) (r := []) (q := 142) rfl (fun _ _ _ _ _ _ => rfl) rfl (by decide) rfl rfl rfl rfl rfl (Nat.le_of_ble_eq_true rfl) (d_recv atM0 (by decide) (by decide)) rfl (m_X7_name (Nat.le_trans (by decide) hd)  h) (fun r16 g17 => ?_)
              refine y_istore_n (lo' := [some (.ref 0), some (.int r16)]) (q := 143) rfl (Nat.le_of_ble_eq_true rfl) rfl rfl ?_
              refine y_aload_n (q := 144) rfl rfl rfl ?_
              refine y_getI (q := 147) rfl rfl (by decide) atM0 rfl rfl ?_
              refine y_ne0 (q := 161) (q' := 150) rfl rfl rfl rfl (fun c18 => ?_) (fun c19 => ?_)
              · skip
                refine y_aload_n (q := 151) rfl rfl rfl ?_
                refine y_callV (I := .invokevirtual 209) (idx := 209) (KD := 1) (J := 145) (mj := mj135) (as := [.ref 0]) (r := []) (q := 154) rfl (fun _ _ _ _ _ _ => rfl) rfl (by decide) rfl rfl rfl rfl rfl (Nat.le_of_ble_eq_true rfl) (d_recv atM0 (by decide) (by decide)) rfl (m_X7_next (Nat.le_trans (by decide) hd)  g17) (fun g20 => ?_)
                refine y_goto (q := 161) rfl rfl ?_
                refine y_iload_n (q := 162) rfl rfl rfl ?_
                exact y_retI rfl (by decide) rfl rfl
              · skip
                refine y_iload_n (q := 162) rfl rfl rfl ?_
                exact y_retI rfl (by decide) rfl rfl
            · skip
              refine y_aload_n (q := 158) rfl rfl rfl ?_
              refine y_callV (I := .invokevirtual 206) (idx := 206) (KD := 1) (J := 146) (mj := mj136) (as := [.ref 0]) (r := []) (q := 161) rfl (fun _ _ _ _ _ _ => rfl) rfl (by decide) rfl rfl rfl rfl rfl (Nat.le_of_ble_eq_true rfl) (d_recv atM0 (by decide) (by decide)) rfl (m_X7_fail (Nat.le_trans (by decide) hd)  h) (fun g21 => ?_)
              refine y_iload_n (q := 162) rfl rfl rfl ?_
              exact y_retI rfl (by decide) rfl rfl
          · skip
            refine y_aload_n (q := 158) rfl rfl rfl ?_
            refine y_callV (I := .invokevirtual 206) (idx := 206) (KD := 1) (J := 146) (mj := mj136) (as := [.ref 0]) (r := []) (q := 161) rfl (fun _ _ _ _ _ _ => rfl) rfl (by decide) rfl rfl rfl rfl rfl (Nat.le_of_ble_eq_true rfl) (d_recv atM0 (by decide) (by decide)) rfl (m_X7_fail (Nat.le_trans (by decide) hd)  h) (fun g22 => ?_)
            refine y_iload_n (q := 162) rfl rfl rfl ?_
            exact y_retI rfl (by decide) rfl rfl
      · skip
        refine y_aload_n (q := 124) rfl rfl rfl ?_
        refine y_getI (q := 127) rfl rfl (by decide) atM0 rfl rfl ?_
        refine y_ne0 (q := 157) (q' := 130) rfl rfl rfl rfl (fun c23 => ?_) (fun c24 => ?_)
        · skip
          refine y_aload_n (q := 131) rfl rfl rfl ?_
          refine y_getI (q := 134) rfl rfl (by decide) atM0 rfl rfl ?_
          refine y_iconst (x := 1) (q := 135) rfl (by decide) rfl ?_
          refine y_ne (q := 157) (q' := 138) rfl rfl (by decide) rfl rfl (fun c25 => ?_) (fun c26 => ?_)
          · skip
            refine y_aload_n (q := 139) rfl rfl rfl ?_
            refine y_callI (I := .invokevirtual 241) (idx := 241) (KD := 1) (J := 151) (mj := mj141) (as := [.ref 0]) (r := []) (q := 142) rfl (fun _ _ _ _ _ _ => rfl) rfl (by decide) rfl rfl rfl rfl rfl (Nat.le_of_ble_eq_true rfl) (d_recv atM0 (by decide) (by decide)) rfl (m_X7_name (Nat.le_trans (by decide) hd)  h) (fun r27 g28 => ?_)
            refine y_istore_n (lo' := [some (.ref 0), some (.int r27)]) (q := 143) rfl (Nat.le_of_ble_eq_true rfl) rfl rfl ?_
            refine y_aload_n (q := 144) rfl rfl rfl ?_
            refine y_getI (q := 147) rfl rfl (by decide) atM0 rfl rfl ?_
            refine y_ne0 (q := 161) (q' := 150) rfl rfl rfl rfl (fun c29 => ?_) (fun c30 => ?_)
            · skip
              refine y_aload_n (q := 151) rfl rfl rfl ?_
              refine y_callV (I := .invokevirtual 209) (idx := 209) (KD := 1) (J := 145) (mj := mj135) (as := [.ref 0]) (r := []) (q := 154) rfl (fun _ _ _ _ _ _ => rfl) rfl (by decide) rfl rfl rfl rfl rfl (Nat.le_of_ble_eq_true rfl) (d_recv atM0 (by decide) (by decide)) rfl (m_X7_next (Nat.le_trans (by decide) hd)  g28) (fun g31 => ?_)
              refine y_goto (q := 161) rfl rfl ?_
              refine y_iload_n (q := 162) rfl rfl rfl ?_
              exact y_retI rfl (by decide) rfl rfl
            · skip
              refine y_iload_n (q := 162) rfl rfl rfl ?_
              exact y_retI rfl (by decide) rfl rfl
          · skip
            refine y_aload_n (q := 158) rfl rfl rfl ?_
            refine y_callV (I := .invokevirtual 206) (idx := 206) (KD := 1) (J := 146) (mj := mj136) (as := [.ref 0]) (r := []) (q := 161) rfl (fun _ _ _ _ _ _ => rfl) rfl (by decide) rfl rfl rfl rfl rfl (Nat.le_of_ble_eq_true rfl) (d_recv atM0 (by decide) (by decide)) rfl (m_X7_fail (Nat.le_trans (by decide) hd)  h) (fun g32 => ?_)
            refine y_iload_n (q := 162) rfl rfl rfl ?_
            exact y_retI rfl (by decide) rfl rfl
        · skip
          refine y_aload_n (q := 158) rfl rfl rfl ?_
          refine y_callV (I := .invokevirtual 206) (idx := 206) (KD := 1) (J := 146) (mj := mj136) (as := [.ref 0]) (r := []) (q := 161) rfl (fun _ _ _ _ _ _ => rfl) rfl (by decide) rfl rfl rfl rfl rfl (Nat.le_of_ble_eq_true rfl) (d_recv atM0 (by decide) (by decide)) rfl (m_X7_fail (Nat.le_trans (by decide) hd)  h) (fun g33 => ?_)
          refine y_iload_n (q := 162) rfl rfl rfl ?_
          exact y_retI rfl (by decide) rfl rfl
    · skip
      refine y_aload_n (q := 47) rfl rfl rfl ?_
      refine y_callI (I := .invokevirtual 237) (idx := 237) (KD := 1) (J := 150) (mj := mj140) (as := [.ref 0]) (r := []) (q := 50) rfl (fun _ _ _ _ _ _ => rfl) rfl (by decide) rfl rfl rfl rfl rfl (Nat.le_of_ble_eq_true rfl) (d_recv atM0 (by decide) (by decide)) rfl (m_X7_opens (Nat.le_trans (by decide) hd)  h) (fun r34 g35 => ?_)
      refine y_eq0 (q := 161) (q' := 53) rfl rfl rfl rfl (fun c36 => ?_) (fun c37 => ?_)
      · skip
        refine y_iload_n (q := 162) rfl rfl rfl ?_
        exact y_retI rfl (by decide) rfl rfl
      · skip
        refine y_aload_n (q := 54) rfl rfl rfl ?_
        refine y_callI (I := .invokevirtual 300) (idx := 300) (KD := 1) (J := 169) (mj := mj159) (as := [.ref 0]) (r := []) (q := 57) rfl (fun _ _ _ _ _ _ => rfl) rfl (by decide) rfl rfl rfl rfl rfl (Nat.le_of_ble_eq_true rfl) (d_recv atM0 (by decide) (by decide)) rfl (m_X7_either3 (Nat.le_trans (by decide) hd)  g35) (fun r38 g39 => ?_)
        refine y_istore_n (lo' := [some (.ref 0), some (.int r38)]) (q := 58) rfl (Nat.le_of_ble_eq_true rfl) rfl rfl ?_
        refine y_aload_n (q := 59) rfl rfl rfl ?_
        refine y_bipush (x := 41) (q := 61) rfl (by decide) rfl ?_
        refine y_callP (I := .invokevirtual 234) (idx := 234) (KD := 1) (J := 149) (mj := mj139) (as := [.ref 0, .int 41]) (r := []) (q := 64) rfl (fun _ _ _ _ _ _ => rfl) rfl (by decide) rfl rfl rfl rfl rfl (Nat.le_of_ble_eq_true rfl) (d_recv atM0 (by decide) (by decide)) rfl (m_X7_isSign (Nat.le_trans (by decide) hd) 41 g39) (fun r40 => ?_)
        refine y_ne0 (q := 71) (q' := 67) rfl rfl rfl rfl (fun c41 => ?_) (fun c42 => ?_)
        · skip
          refine y_aload_n (q := 68) rfl rfl rfl ?_
          refine y_callV (I := .invokevirtual 206) (idx := 206) (KD := 1) (J := 146) (mj := mj136) (as := [.ref 0]) (r := []) (q := 71) rfl (fun _ _ _ _ _ _ => rfl) rfl (by decide) rfl rfl rfl rfl rfl (Nat.le_of_ble_eq_true rfl) (d_recv atM0 (by decide) (by decide)) rfl (m_X7_fail (Nat.le_trans (by decide) hd)  g39) (fun g43 => ?_)
          refine y_aload_n (q := 72) rfl rfl rfl ?_
          refine y_dup (q := 73) rfl rfl ?_
          refine y_getI (q := 76) rfl rfl (by decide) atM0 rfl rfl ?_
          refine y_iconst (x := 1) (q := 77) rfl (by decide) rfl ?_
          refine y_isub (q := 78) rfl rfl ?_
          refine y_putI (q := 81) rfl rfl (by decide) atM0 rfl rfl rfl rfl (fun g44 => ?_)
          refine y_aload_n (q := 82) rfl rfl rfl ?_
          refine y_getI (q := 85) rfl rfl (by decide) atM0 rfl rfl ?_
          refine y_ne0 (q := 161) (q' := 88) rfl rfl rfl rfl (fun c45 => ?_) (fun c46 => ?_)
          · skip
            refine y_aload_n (q := 89) rfl rfl rfl ?_
            refine y_callV (I := .invokevirtual 209) (idx := 209) (KD := 1) (J := 145) (mj := mj135) (as := [.ref 0]) (r := []) (q := 92) rfl (fun _ _ _ _ _ _ => rfl) rfl (by decide) rfl rfl rfl rfl rfl (Nat.le_of_ble_eq_true rfl) (d_recv atM0 (by decide) (by decide)) rfl (m_X7_next (Nat.le_trans (by decide) hd)  g44) (fun g47 => ?_)
            refine y_goto (q := 161) rfl rfl ?_
            refine y_iload_n (q := 162) rfl rfl rfl ?_
            exact y_retI rfl (by decide) rfl rfl
          · skip
            refine y_iload_n (q := 162) rfl rfl rfl ?_
            exact y_retI rfl (by decide) rfl rfl
        · skip
          refine y_aload_n (q := 72) rfl rfl rfl ?_
          refine y_dup (q := 73) rfl rfl ?_
          refine y_getI (q := 76) rfl rfl (by decide) atM0 rfl rfl ?_
          refine y_iconst (x := 1) (q := 77) rfl (by decide) rfl ?_
          refine y_isub (q := 78) rfl rfl ?_
          refine y_putI (q := 81) rfl rfl (by decide) atM0 rfl rfl rfl rfl (fun g48 => ?_)
          refine y_aload_n (q := 82) rfl rfl rfl ?_
          refine y_getI (q := 85) rfl rfl (by decide) atM0 rfl rfl ?_
          refine y_ne0 (q := 161) (q' := 88) rfl rfl rfl rfl (fun c49 => ?_) (fun c50 => ?_)
          · skip
            refine y_aload_n (q := 89) rfl rfl rfl ?_
            refine y_callV (I := .invokevirtual 209) (idx := 209) (KD := 1) (J := 145) (mj := mj135) (as := [.ref 0]) (r := []) (q := 92) rfl (fun _ _ _ _ _ _ => rfl) rfl (by decide) rfl rfl rfl rfl rfl (Nat.le_of_ble_eq_true rfl) (d_recv atM0 (by decide) (by decide)) rfl (m_X7_next (Nat.le_trans (by decide) hd)  g48) (fun g51 => ?_)
            refine y_goto (q := 161) rfl rfl ?_
            refine y_iload_n (q := 162) rfl rfl rfl ?_
            exact y_retI rfl (by decide) rfl rfl
          · skip
            refine y_iload_n (q := 162) rfl rfl rfl ?_
            exact y_retI rfl (by decide) rfl rfl
  · skip
    refine y_aload_n (q := 12) rfl rfl rfl ?_
    refine y_callI (I := .invokevirtual 237) (idx := 237) (KD := 1) (J := 150) (mj := mj140) (as := [.ref 0]) (r := []) (q := 15) rfl (fun _ _ _ _ _ _ => rfl) rfl (by decide) rfl rfl rfl rfl rfl (Nat.le_of_ble_eq_true rfl) (d_recv atM0 (by decide) (by decide)) rfl (m_X7_opens (Nat.le_trans (by decide) hd)  h) (fun r52 g53 => ?_)
    refine y_eq0 (q := 161) (q' := 18) rfl rfl rfl rfl (fun c54 => ?_) (fun c55 => ?_)
    · skip
      refine y_iload_n (q := 162) rfl rfl rfl ?_
      exact y_retI rfl (by decide) rfl rfl
    · skip
      refine y_aload_n (q := 19) rfl rfl rfl ?_
      refine y_callI (I := .invokevirtual 285) (idx := 285) (KD := 1) (J := 164) (mj := mj154) (as := [.ref 0]) (r := []) (q := 22) rfl (fun _ _ _ _ _ _ => rfl) rfl (by decide) rfl rfl rfl rfl rfl (Nat.le_of_ble_eq_true rfl) (d_recv atM0 (by decide) (by decide)) rfl (m_X7_atom3 (Nat.le_trans (by decide) hd)  g53) (fun r56 g57 => ?_)
      refine y_ineg (q := 23) rfl rfl ?_
      refine y_istore_n (lo' := [some (.ref 0), some (.int (-r56))]) (q := 24) rfl (Nat.le_of_ble_eq_true rfl) rfl rfl ?_
      refine y_aload_n (q := 25) rfl rfl rfl ?_
      refine y_dup (q := 26) rfl rfl ?_
      refine y_getI (q := 29) rfl rfl (by decide) atM0 rfl rfl ?_
      refine y_iconst (x := 1) (q := 30) rfl (by decide) rfl ?_
      refine y_isub (q := 31) rfl rfl ?_
      refine y_putI (q := 34) rfl rfl (by decide) atM0 rfl rfl rfl rfl (fun g58 => ?_)
      refine y_goto (q := 161) rfl rfl ?_
      refine y_iload_n (q := 162) rfl rfl rfl ?_
      exact y_retI rfl (by decide) rfl rfl
def l_X7_term2_5  (k : Int32 → dH → Option (Int32 × dH)) : Nat → Int32 → dH → Option (Int32 × dH)
  | 0, _, _ => none
  | n + 1, v1, h => oP (f_X7_isSign 42 h) (fun r3 => if r3.toInt = 0 then (k v1 h) else (oV (f_X7_next  h) (fun g6 => oI (f_X7_atom2  g6) (fun r7 g8 => l_X7_term2_5  k n (v1 * r7) g8))))
theorem lz_X7_term2_5 {d : Nat} (hd : 23 ≤ d)  (k : Int32 → dH → Option (Int32 × dH)) (hk : ∀ (v1 : Int32) (h : dH), dY shM d mj161 dI (k v1 h) 28 [some (.ref 0), some (.int v1)] [] h) : ∀ (n : Nat) (v1 : Int32) (h : dH), dY shM d mj161 dI (l_X7_term2_5  k n v1 h) 5 [some (.ref 0), some (.int v1)] [] h
  | 0, _, _ => dY_none
  | n + 1, v1, h => by
    rw [l_X7_term2_5]
    refine y_aload_n (q := 6) rfl rfl rfl ?_
    refine y_bipush (x := 42) (q := 8) rfl (by decide) rfl ?_
    refine y_callP (I := .invokevirtual 234) (idx := 234) (KD := 1) (J := 149) (mj := mj139) (as := [.ref 0, .int 42]) (r := []) (q := 11) rfl (fun _ _ _ _ _ _ => rfl) rfl (by decide) rfl rfl rfl rfl rfl (Nat.le_of_ble_eq_true rfl) (d_recv atM0 (by decide) (by decide)) rfl (m_X7_isSign (Nat.le_trans (by decide) hd) 42 h) (fun r3 => ?_)
    refine y_eq0 (q := 28) (q' := 14) rfl rfl rfl rfl (fun c4 => ?_) (fun c5 => ?_)
    · skip
      exact hk v1  h
    · skip
      refine y_aload_n (q := 15) rfl rfl rfl ?_
      refine y_callV (I := .invokevirtual 209) (idx := 209) (KD := 1) (J := 145) (mj := mj135) (as := [.ref 0]) (r := []) (q := 18) rfl (fun _ _ _ _ _ _ => rfl) rfl (by decide) rfl rfl rfl rfl rfl (Nat.le_of_ble_eq_true rfl) (d_recv atM0 (by decide) (by decide)) rfl (m_X7_next (Nat.le_trans (by decide) hd)  h) (fun g6 => ?_)
      refine y_iload_n (q := 19) rfl rfl rfl ?_
      refine y_aload_n (q := 20) rfl rfl rfl ?_
      refine y_callI (I := .invokevirtual 303) (idx := 303) (KD := 1) (J := 170) (mj := mj160) (as := [.ref 0]) (r := [.int v1]) (q := 23) rfl (fun _ _ _ _ _ _ => rfl) rfl (by decide) rfl rfl rfl rfl rfl (Nat.le_of_ble_eq_true rfl) (d_recv atM0 (by decide) (by decide)) rfl (m_X7_atom2 (Nat.le_trans (by decide) hd)  g6) (fun r7 g8 => ?_)
      refine y_imul (q := 24) rfl rfl ?_
      refine y_istore_n (lo' := [some (.ref 0), some (.int (v1 * r7))]) (q := 25) rfl (Nat.le_of_ble_eq_true rfl) rfl rfl ?_
      refine y_goto (q := 5) rfl rfl ?_
      exact lz_X7_term2_5 hd  k hk n (v1 * r7) g8 
def f_X7_term2  (h : dH) : Option (Int32 × dH) := oI (f_X7_atom2  h) (fun r1 g2 => l_X7_term2_5   (fun v1_9 g10 => some (v1_9, g10)) fuel0 r1 g2)
theorem m_X7_term2 {d : Nat} (hd : 24 ≤ d)  (h : dH) : dX shM d 161 [.ref 0] dI (f_X7_term2  h) h := by
  obtain ⟨e, rfl⟩ : ∃ e, d = e + 1 := ⟨d - 1, by omega⟩
  have hd : 23 ≤ e := by omega
  refine dX_of (mj := mj161) (lo := [some (.ref 0), none]) rfl (Nat.le_of_ble_eq_true rfl) rfl ?_
  unfold f_X7_term2
  refine y_aload_n (q := 1) rfl rfl rfl ?_
  refine y_callI (I := .invokevirtual 303) (idx := 303) (KD := 1) (J := 170) (mj := mj160) (as := [.ref 0]) (r := []) (q := 4) rfl (fun _ _ _ _ _ _ => rfl) rfl (by decide) rfl rfl rfl rfl rfl (Nat.le_of_ble_eq_true rfl) (d_recv atM0 (by decide) (by decide)) rfl (m_X7_atom2 (Nat.le_trans (by decide) hd)  h) (fun r1 g2 => ?_)
  refine y_istore_n (lo' := [some (.ref 0), some (.int r1)]) (q := 5) rfl (Nat.le_of_ble_eq_true rfl) rfl rfl ?_
  refine lz_X7_term2_5 hd   _ (fun v1_9 g10 => ?_) fuel0 r1 g2 
  refine y_iload_n (q := 29) rfl rfl rfl ?_
  exact y_retI rfl (by decide) rfl rfl
def l_X7_added2_5  (k : Int32 → dH → Option (Int32 × dH)) : Nat → Int32 → dH → Option (Int32 × dH)
  | 0, _, _ => none
  | n + 1, v1, h => oP (f_X7_isSign 43 h) (fun r3 => if r3.toInt = 0 then (oP (f_X7_isSign 45 h) (fun r6 => if r6.toInt = 0 then (k v1 h) else (if (dlcmp (h 0 25).toInt64 43).toInt = 0 then (oV (f_X7_next  h) (fun g11 => oI (f_X7_term2  g11) (fun r12 g13 => l_X7_added2_5  k n (v1 + r12) g13))) else (oV (f_X7_next  h) (fun g14 => oI (f_X7_term2  g14) (fun r15 g16 => l_X7_added2_5  k n (v1 - r15) g16)))))) else (if (dlcmp (h 0 25).toInt64 43).toInt = 0 then (oV (f_X7_next  h) (fun g19 => oI (f_X7_term2  g19) (fun r20 g21 => l_X7_added2_5  k n (v1 + r20) g21))) else (oV (f_X7_next  h) (fun g22 => oI (f_X7_term2  g22) (fun r23 g24 => l_X7_added2_5  k n (v1 - r23) g24)))))
theorem lz_X7_added2_5 {d : Nat} (hd : 24 ≤ d)  (k : Int32 → dH → Option (Int32 × dH)) (hk : ∀ (v1 : Int32) (z2 : Option Value) (z3 : Option Value) (h : dH), dY shM d mj162 dI (k v1 h) 66 [some (.ref 0), some (.int v1), z2, z3] [] h) : ∀ (n : Nat) (v1 : Int32) (h : dH) (z2 : Option Value) (z3 : Option Value), dY shM d mj162 dI (l_X7_added2_5  k n v1 h) 5 [some (.ref 0), some (.int v1), z2, z3] [] h
  | 0, _, _, _, _ => dY_none
  | n + 1, v1, h, z2, z3 => by
    rw [l_X7_added2_5]
    refine y_aload_n (q := 6) rfl rfl rfl ?_
    refine y_bipush (x := 43) (q := 8) rfl (by decide) rfl ?_
    refine y_callP (I := .invokevirtual 234) (idx := 234) (KD := 1) (J := 149) (mj := mj139) (as := [.ref 0, .int 43]) (r := []) (q := 11) rfl (fun _ _ _ _ _ _ => rfl) rfl (by decide) rfl rfl rfl rfl rfl (Nat.le_of_ble_eq_true rfl) (d_recv atM0 (by decide) (by decide)) rfl (m_X7_isSign (Nat.le_trans (by decide) hd) 43 h) (fun r3 => ?_)
    refine y_ne0 (q := 23) (q' := 14) rfl rfl rfl rfl (fun c4 => ?_) (fun c5 => ?_)
    · skip
      refine y_aload_n (q := 15) rfl rfl rfl ?_
      refine y_bipush (x := 45) (q := 17) rfl (by decide) rfl ?_
      refine y_callP (I := .invokevirtual 234) (idx := 234) (KD := 1) (J := 149) (mj := mj139) (as := [.ref 0, .int 45]) (r := []) (q := 20) rfl (fun _ _ _ _ _ _ => rfl) rfl (by decide) rfl rfl rfl rfl rfl (Nat.le_of_ble_eq_true rfl) (d_recv atM0 (by decide) (by decide)) rfl (m_X7_isSign (Nat.le_trans (by decide) hd) 45 h) (fun r6 => ?_)
      refine y_eq0 (q := 66) (q' := 23) rfl rfl rfl rfl (fun c7 => ?_) (fun c8 => ?_)
      · skip
        exact hk v1 (z2) (z3) h
      · skip
        refine y_aload_n (q := 24) rfl rfl rfl ?_
        refine y_getL (q := 27) rfl rfl (by decide) atM0 rfl rfl ?_
        refine y_ldc2_w (u := 43) (q := 30) rfl rfl rfl ?_
        refine y_lcmp (q := 31) rfl rfl ?_
        refine y_ne0 (q := 38) (q' := 34) rfl rfl rfl rfl (fun c9 => ?_) (fun c10 => ?_)
        · skip
          refine y_iconst (x := 1) (q := 35) rfl (by decide) rfl ?_
          refine y_goto (q := 39) rfl rfl ?_
          refine y_istore_n (lo' := [some (.ref 0), some (.int v1), some (.int 1), z3]) (q := 40) rfl (Nat.le_of_ble_eq_true rfl) rfl rfl ?_
          refine y_aload_n (q := 41) rfl rfl rfl ?_
          refine y_callV (I := .invokevirtual 209) (idx := 209) (KD := 1) (J := 145) (mj := mj135) (as := [.ref 0]) (r := []) (q := 44) rfl (fun _ _ _ _ _ _ => rfl) rfl (by decide) rfl rfl rfl rfl rfl (Nat.le_of_ble_eq_true rfl) (d_recv atM0 (by decide) (by decide)) rfl (m_X7_next (Nat.le_trans (by decide) hd)  h) (fun g11 => ?_)
          refine y_aload_n (q := 45) rfl rfl rfl ?_
          refine y_callI (I := .invokevirtual 306) (idx := 306) (KD := 1) (J := 171) (mj := mj161) (as := [.ref 0]) (r := []) (q := 48) rfl (fun _ _ _ _ _ _ => rfl) rfl (by decide) rfl rfl rfl rfl rfl (Nat.le_of_ble_eq_true rfl) (d_recv atM0 (by decide) (by decide)) rfl (m_X7_term2 (Nat.le_trans (by decide) hd)  g11) (fun r12 g13 => ?_)
          refine y_istore_n (lo' := [some (.ref 0), some (.int v1), some (.int 1), some (.int r12)]) (q := 49) rfl (Nat.le_of_ble_eq_true rfl) rfl rfl ?_
          refine y_iload_n (q := 50) rfl rfl rfl ?_
          refine y_ifF (q := 53) rfl (by decide) rfl rfl ?_
          refine y_iload_n (q := 54) rfl rfl rfl ?_
          refine y_iload_n (q := 55) rfl rfl rfl ?_
          refine y_iadd (q := 56) rfl rfl ?_
          refine y_goto (q := 62) rfl rfl ?_
          refine y_istore_n (lo' := [some (.ref 0), some (.int (v1 + r12)), some (.int 1), some (.int r12)]) (q := 63) rfl (Nat.le_of_ble_eq_true rfl) rfl rfl ?_
          refine y_goto (q := 5) rfl rfl ?_
          exact lz_X7_added2_5 hd  k hk n (v1 + r12) g13 (some (.int 1)) (some (.int r12))
        · skip
          refine y_iconst (x := 0) (q := 39) rfl (by decide) rfl ?_
          refine y_istore_n (lo' := [some (.ref 0), some (.int v1), some (.int 0), z3]) (q := 40) rfl (Nat.le_of_ble_eq_true rfl) rfl rfl ?_
          refine y_aload_n (q := 41) rfl rfl rfl ?_
          refine y_callV (I := .invokevirtual 209) (idx := 209) (KD := 1) (J := 145) (mj := mj135) (as := [.ref 0]) (r := []) (q := 44) rfl (fun _ _ _ _ _ _ => rfl) rfl (by decide) rfl rfl rfl rfl rfl (Nat.le_of_ble_eq_true rfl) (d_recv atM0 (by decide) (by decide)) rfl (m_X7_next (Nat.le_trans (by decide) hd)  h) (fun g14 => ?_)
          refine y_aload_n (q := 45) rfl rfl rfl ?_
          refine y_callI (I := .invokevirtual 306) (idx := 306) (KD := 1) (J := 171) (mj := mj161) (as := [.ref 0]) (r := []) (q := 48) rfl (fun _ _ _ _ _ _ => rfl) rfl (by decide) rfl rfl rfl rfl rfl (Nat.le_of_ble_eq_true rfl) (d_recv atM0 (by decide) (by decide)) rfl (m_X7_term2 (Nat.le_trans (by decide) hd)  g14) (fun r15 g16 => ?_)
          refine y_istore_n (lo' := [some (.ref 0), some (.int v1), some (.int 0), some (.int r15)]) (q := 49) rfl (Nat.le_of_ble_eq_true rfl) rfl rfl ?_
          refine y_iload_n (q := 50) rfl rfl rfl ?_
          refine y_ifT (q := 59) rfl (by decide) rfl ?_
          refine y_iload_n (q := 60) rfl rfl rfl ?_
          refine y_iload_n (q := 61) rfl rfl rfl ?_
          refine y_isub (q := 62) rfl rfl ?_
          refine y_istore_n (lo' := [some (.ref 0), some (.int (v1 - r15)), some (.int 0), some (.int r15)]) (q := 63) rfl (Nat.le_of_ble_eq_true rfl) rfl rfl ?_
          refine y_goto (q := 5) rfl rfl ?_
          exact lz_X7_added2_5 hd  k hk n (v1 - r15) g16 (some (.int 0)) (some (.int r15))
    · skip
      refine y_aload_n (q := 24) rfl rfl rfl ?_
      refine y_getL (q := 27) rfl rfl (by decide) atM0 rfl rfl ?_
      refine y_ldc2_w (u := 43) (q := 30) rfl rfl rfl ?_
      refine y_lcmp (q := 31) rfl rfl ?_
      refine y_ne0 (q := 38) (q' := 34) rfl rfl rfl rfl (fun c17 => ?_) (fun c18 => ?_)
      · skip
        refine y_iconst (x := 1) (q := 35) rfl (by decide) rfl ?_
        refine y_goto (q := 39) rfl rfl ?_
        refine y_istore_n (lo' := [some (.ref 0), some (.int v1), some (.int 1), z3]) (q := 40) rfl (Nat.le_of_ble_eq_true rfl) rfl rfl ?_
        refine y_aload_n (q := 41) rfl rfl rfl ?_
        refine y_callV (I := .invokevirtual 209) (idx := 209) (KD := 1) (J := 145) (mj := mj135) (as := [.ref 0]) (r := []) (q := 44) rfl (fun _ _ _ _ _ _ => rfl) rfl (by decide) rfl rfl rfl rfl rfl (Nat.le_of_ble_eq_true rfl) (d_recv atM0 (by decide) (by decide)) rfl (m_X7_next (Nat.le_trans (by decide) hd)  h) (fun g19 => ?_)
        refine y_aload_n (q := 45) rfl rfl rfl ?_
        refine y_callI (I := .invokevirtual 306) (idx := 306) (KD := 1) (J := 171) (mj := mj161) (as := [.ref 0]) (r := []) (q := 48) rfl (fun _ _ _ _ _ _ => rfl) rfl (by decide) rfl rfl rfl rfl rfl (Nat.le_of_ble_eq_true rfl) (d_recv atM0 (by decide) (by decide)) rfl (m_X7_term2 (Nat.le_trans (by decide) hd)  g19) (fun r20 g21 => ?_)
        refine y_istore_n (lo' := [some (.ref 0), some (.int v1), some (.int 1), some (.int r20)]) (q := 49) rfl (Nat.le_of_ble_eq_true rfl) rfl rfl ?_
        refine y_iload_n (q := 50) rfl rfl rfl ?_
        refine y_ifF (q := 53) rfl (by decide) rfl rfl ?_
        refine y_iload_n (q := 54) rfl rfl rfl ?_
        refine y_iload_n (q := 55) rfl rfl rfl ?_
        refine y_iadd (q := 56) rfl rfl ?_
        refine y_goto (q := 62) rfl rfl ?_
        refine y_istore_n (lo' := [some (.ref 0), some (.int (v1 + r20)), some (.int 1), some (.int r20)]) (q := 63) rfl (Nat.le_of_ble_eq_true rfl) rfl rfl ?_
        refine y_goto (q := 5) rfl rfl ?_
        exact lz_X7_added2_5 hd  k hk n (v1 + r20) g21 (some (.int 1)) (some (.int r20))
      · skip
        refine y_iconst (x := 0) (q := 39) rfl (by decide) rfl ?_
        refine y_istore_n (lo' := [some (.ref 0), some (.int v1), some (.int 0), z3]) (q := 40) rfl (Nat.le_of_ble_eq_true rfl) rfl rfl ?_
        refine y_aload_n (q := 41) rfl rfl rfl ?_
        refine y_callV (I := .invokevirtual 209) (idx := 209) (KD := 1) (J := 145) (mj := mj135) (as := [.ref 0]) (r := []) (q := 44) rfl (fun _ _ _ _ _ _ => rfl) rfl (by decide) rfl rfl rfl rfl rfl (Nat.le_of_ble_eq_true rfl) (d_recv atM0 (by decide) (by decide)) rfl (m_X7_next (Nat.le_trans (by decide) hd)  h) (fun g22 => ?_)
        refine y_aload_n (q := 45) rfl rfl rfl ?_
        refine y_callI (I := .invokevirtual 306) (idx := 306) (KD := 1) (J := 171) (mj := mj161) (as := [.ref 0]) (r := []) (q := 48) rfl (fun _ _ _ _ _ _ => rfl) rfl (by decide) rfl rfl rfl rfl rfl (Nat.le_of_ble_eq_true rfl) (d_recv atM0 (by decide) (by decide)) rfl (m_X7_term2 (Nat.le_trans (by decide) hd)  g22) (fun r23 g24 => ?_)
        refine y_istore_n (lo' := [some (.ref 0), some (.int v1), some (.int 0), some (.int r23)]) (q := 49) rfl (Nat.le_of_ble_eq_true rfl) rfl rfl ?_
        refine y_iload_n (q := 50) rfl rfl rfl ?_
        refine y_ifT (q := 59) rfl (by decide) rfl ?_
        refine y_iload_n (q := 60) rfl rfl rfl ?_
        refine y_iload_n (q := 61) rfl rfl rfl ?_
        refine y_isub (q := 62) rfl rfl ?_
        refine y_istore_n (lo' := [some (.ref 0), some (.int (v1 - r23)), some (.int 0), some (.int r23)]) (q := 63) rfl (Nat.le_of_ble_eq_true rfl) rfl rfl ?_
        refine y_goto (q := 5) rfl rfl ?_
        exact lz_X7_added2_5 hd  k hk n (v1 - r23) g24 (some (.int 0)) (some (.int r23))
def f_X7_added2  (h : dH) : Option (Int32 × dH) := oI (f_X7_term2  h) (fun r1 g2 => l_X7_added2_5   (fun v1_25 g28 => some (v1_25, g28)) fuel0 r1 g2)
theorem m_X7_added2 {d : Nat} (hd : 25 ≤ d)  (h : dH) : dX shM d 162 [.ref 0] dI (f_X7_added2  h) h := by
  obtain ⟨e, rfl⟩ : ∃ e, d = e + 1 := ⟨d - 1, by omega⟩
  have hd : 24 ≤ e := by omega
  refine dX_of (mj := mj162) (lo := [some (.ref 0), none, none, none]) rfl (Nat.le_of_ble_eq_true rfl) rfl ?_
  unfold f_X7_added2
  refine y_aload_n (q := 1) rfl rfl rfl ?_
  refine y_callI (I := .invokevirtual 306) (idx := 306) (KD := 1) (J := 171) (mj := mj161) (as := [.ref 0]) (r := []) (q := 4) rfl (fun _ _ _ _ _ _ => rfl) rfl (by decide) rfl rfl rfl rfl rfl (Nat.le_of_ble_eq_true rfl) (d_recv atM0 (by decide) (by decide)) rfl (m_X7_term2 (Nat.le_trans (by decide) hd)  h) (fun r1 g2 => ?_)
  refine y_istore_n (lo' := [some (.ref 0), some (.int r1), none, none]) (q := 5) rfl (Nat.le_of_ble_eq_true rfl) rfl rfl ?_
  refine lz_X7_added2_5 hd   _ (fun v1_25 z26 z27 g28 => ?_) fuel0 r1 g2 (none) (none)
  refine y_iload_n (q := 67) rfl rfl rfl ?_
  exact y_retI rfl (by decide) rfl rfl
def f_X7_not2  (h : dH) : Option (Int32 × dH) := oP (f_X7_isWord 110 111 116 0 0 0 0 0 h) (fun r1 => if r1.toInt = 0 then (oI (f_X7_added2  h) (fun r4 g5 => oP (f_X7_isSign 60 g5) (fun r6 => if r6.toInt = 0 then (oP (f_X7_isSign 61 g5) (fun r9 => if r9.toInt = 0 then (some (r4, g5)) else (if (dlcmp (g5 0 25).toInt64 60).toInt = 0 then (oV (f_X7_next  g5) (fun g14 => oI (f_X7_added2  g14) (fun r15 g16 => if r4.toInt < r15.toInt then (some (1, g16)) else (some (0, g16))))) else (oV (f_X7_next  g5) (fun g19 => oI (f_X7_added2  g19) (fun r20 g21 => if r4.toInt = r20.toInt then (some (1, g21)) else (some (0, g21)))))))) else (if (dlcmp (g5 0 25).toInt64 60).toInt = 0 then (oV (f_X7_next  g5) (fun g26 => oI (f_X7_added2  g26) (fun r27 g28 => if r4.toInt < r27.toInt then (some (1, g28)) else (some (0, g28))))) else (oV (f_X7_next  g5) (fun g31 => oI (f_X7_added2  g31) (fun r32 g33 => if r4.toInt = r32.toInt then (some (1, g33)) else (some (0, g33))))))))) else (oI (f_X7_opens  h) (fun r36 g37 => if r36.toInt = 0 then (some (0, g37)) else (oI (f_X7_not3  g37) (fun r40 g41 => oH (dU g41 0 26 ((g41 0 26) - 1)) (fun g42 => if r40.toInt = 0 then (some (1, g42)) else (some (0, g42))))))))
theorem m_X7_not2 {d : Nat} (hd : 26 ≤ d)  (h : dH) : dX shM d 163 [.ref 0] dI (f_X7_not2  h) h := by
  obtain ⟨e, rfl⟩ : ∃ e, d = e + 1 := ⟨d - 1, by omega⟩
  have hd : 25 ≤ e := by omega
  refine dX_of (mj := mj163) (lo := [some (.ref 0), none, none, none]) rfl (Nat.le_of_ble_eq_true rfl) rfl ?_
  unfold f_X7_not2
  refine y_aload_n (q := 1) rfl rfl rfl ?_
  refine y_bipush (x := 110) (q := 3) rfl (by decide) rfl ?_
  refine y_bipush (x := 111) (q := 5) rfl (by decide) rfl ?_
  refine y_bipush (x := 116) (q := 7) rfl (by decide) rfl ?_
  refine y_iconst (x := 0) (q := 8) rfl (by decide) rfl ?_
  refine y_iconst (x := 0) (q := 9) rfl (by decide) rfl ?_
  refine y_iconst (x := 0) (q := 10) rfl (by decide) rfl ?_
  refine y_iconst (x := 0) (q := 11) rfl (by decide) rfl ?_
  refine y_iconst (x := 0) (q := 12) rfl (by decide) rfl ?_
  refine y_callP (I := .invokevirtual 212) (idx := 212) (KD := 1) (J := 148) (mj := mj138) (as := [.ref 0, .int 110, .int 111, .int 116, .int 0, .int 0, .int 0, .int 0, .int 0]) (r := []) (q := 15) rfl (fun _ _ _ _ _ _ => rfl) rfl (by decide) rfl rfl rfl rfl rfl (Nat.le_of_ble_eq_true rfl) (d_recv atM0 (by decide) (by decide)) rfl (m_X7_isWord (Nat.le_trans (by decide) hd) 110 111 116 0 0 0 0 0 h) (fun r1 => ?_)
  refine y_eq0 (q := 52) (q' := 18) rfl rfl rfl rfl (fun c2 => ?_) (fun c3 => ?_)
  · skip
    refine y_aload_n (q := 53) rfl rfl rfl ?_
    refine y_callI (I := .invokevirtual 309) (idx := 309) (KD := 1) (J := 172) (mj := mj162) (as := [.ref 0]) (r := []) (q := 56) rfl (fun _ _ _ _ _ _ => rfl) rfl (by decide) rfl rfl rfl rfl rfl (Nat.le_of_ble_eq_true rfl) (d_recv atM0 (by decide) (by decide)) rfl (m_X7_added2 (Nat.le_trans (by decide) hd)  h) (fun r4 g5 => ?_)
    refine y_istore_n (lo' := [some (.ref 0), some (.int r4), none, none]) (q := 57) rfl (Nat.le_of_ble_eq_true rfl) rfl rfl ?_
    refine y_aload_n (q := 58) rfl rfl rfl ?_
    refine y_bipush (x := 60) (q := 60) rfl (by decide) rfl ?_
    refine y_callP (I := .invokevirtual 234) (idx := 234) (KD := 1) (J := 149) (mj := mj139) (as := [.ref 0, .int 60]) (r := []) (q := 63) rfl (fun _ _ _ _ _ _ => rfl) rfl (by decide) rfl rfl rfl rfl rfl (Nat.le_of_ble_eq_true rfl) (d_recv atM0 (by decide) (by decide)) rfl (m_X7_isSign (Nat.le_trans (by decide) hd) 60 g5) (fun r6 => ?_)
    refine y_ne0 (q := 77) (q' := 66) rfl rfl rfl rfl (fun c7 => ?_) (fun c8 => ?_)
    · skip
      refine y_aload_n (q := 67) rfl rfl rfl ?_
      refine y_bipush (x := 61) (q := 69) rfl (by decide) rfl ?_
      refine y_callP (I := .invokevirtual 234) (idx := 234) (KD := 1) (J := 149) (mj := mj139) (as := [.ref 0, .int 61]) (r := []) (q := 72) rfl (fun _ _ _ _ _ _ => rfl) rfl (by decide) rfl rfl rfl rfl rfl (Nat.le_of_ble_eq_true rfl) (d_recv atM0 (by decide) (by decide)) rfl (m_X7_isSign (Nat.le_trans (by decide) hd) 61 g5) (fun r9 => ?_)
      refine y_ne0 (q := 77) (q' := 75) rfl rfl rfl rfl (fun c10 => ?_) (fun c11 => ?_)
      · skip
        refine y_iload_n (q := 76) rfl rfl rfl ?_
        exact y_retI rfl (by decide) rfl rfl
      · skip
        refine y_aload_n (q := 78) rfl rfl rfl ?_
        refine y_getL (q := 81) rfl rfl (by decide) atM0 rfl rfl ?_
        refine y_ldc2_w (u := 60) (q := 84) rfl rfl rfl ?_
        refine y_lcmp (q := 85) rfl rfl ?_
        refine y_ne0 (q := 92) (q' := 88) rfl rfl rfl rfl (fun c12 => ?_) (fun c13 => ?_)
        · skip
          refine y_iconst (x := 1) (q := 89) rfl (by decide) rfl ?_
          refine y_goto (q := 93) rfl rfl ?_
          refine y_istore_n (lo' := [some (.ref 0), some (.int r4), some (.int 1), none]) (q := 94) rfl (Nat.le_of_ble_eq_true rfl) rfl rfl ?_
          refine y_aload_n (q := 95) rfl rfl rfl ?_
          refine y_callV (I := .invokevirtual 209) (idx := 209) (KD := 1) (J := 145) (mj := mj135) (as := [.ref 0]) (r := []) (q := 98) rfl (fun _ _ _ _ _ _ => rfl) rfl (by decide) rfl rfl rfl rfl rfl (Nat.le_of_ble_eq_true rfl) (d_recv atM0 (by decide) (by decide)) rfl (m_X7_next (Nat.le_trans (by decide) hd)  g5) (fun g14 => ?_)
          refine y_aload_n (q := 99) rfl rfl rfl ?_
          refine y_callI (I := .invokevirtual 309) (idx := 309) (KD := 1) (J := 172) (mj := mj162) (as := [.ref 0]) (r := []) (q := 102) rfl (fun _ _ _ _ _ _ => rfl) rfl (by decide) rfl rfl rfl rfl rfl (Nat.le_of_ble_eq_true rfl) (d_recv atM0 (by decide) (by decide)) rfl (m_X7_added2 (Nat.le_trans (by decide) hd)  g14) (fun r15 g16 => ?_)
          refine y_istore_n (lo' := [some (.ref 0), some (.int r4), some (.int 1), some (.int r15)]) (q := 103) rfl (Nat.le_of_ble_eq_true rfl) rfl rfl ?_
          refine y_iload_n (q := 104) rfl rfl rfl ?_
          refine y_ifF (q := 107) rfl (by decide) rfl rfl ?_
          refine y_iload_n (q := 108) rfl rfl rfl ?_
          refine y_iload_n (q := 109) rfl rfl rfl ?_
          refine y_ge (q := 124) (q' := 112) rfl rfl rfl rfl rfl (fun c17 => ?_) (fun c18 => ?_)
          · skip
            refine y_goto (q := 120) rfl rfl ?_
            refine y_iconst (x := 1) (q := 121) rfl (by decide) rfl ?_
            refine y_goto (q := 125) rfl rfl ?_
            exact y_retI rfl (by decide) rfl rfl
          · skip
            refine y_iconst (x := 0) (q := 125) rfl (by decide) rfl ?_
            exact y_retI rfl (by decide) rfl rfl
        · skip
          refine y_iconst (x := 0) (q := 93) rfl (by decide) rfl ?_
          refine y_istore_n (lo' := [some (.ref 0), some (.int r4), some (.int 0), none]) (q := 94) rfl (Nat.le_of_ble_eq_true rfl) rfl rfl ?_
          refine y_aload_n (q := 95) rfl rfl rfl ?_
          refine y_callV (I := .invokevirtual 209) (idx := 209) (KD := 1) (J := 145) (mj := mj135) (as := [.ref 0]) (r := []) (q := 98) rfl (fun _ _ _ _ _ _ => rfl) rfl (by decide) rfl rfl rfl rfl rfl (Nat.le_of_ble_eq_true rfl) (d_recv atM0 (by decide) (by decide)) rfl (m_X7_next (Nat.le_trans (by decide) hd)  g5) (fun g19 => ?_)
          refine y_aload_n (q := 99) rfl rfl rfl ?_
          refine y_callI (I := .invokevirtual 309) (idx := 309) (KD := 1) (J := 172) (mj := mj162) (as := [.ref 0]) (r := []) (q := 102) rfl (fun _ _ _ _ _ _ => rfl) rfl (by decide) rfl rfl rfl rfl rfl (Nat.le_of_ble_eq_true rfl) (d_recv atM0 (by decide) (by decide)) rfl (m_X7_added2 (Nat.le_trans (by decide) hd)  g19) (fun r20 g21 => ?_)
          refine y_istore_n (lo' := [some (.ref 0), some (.int r4), some (.int 0), some (.int r20)]) (q := 103) rfl (Nat.le_of_ble_eq_true rfl) rfl rfl ?_
          refine y_iload_n (q := 104) rfl rfl rfl ?_
          refine y_ifT (q := 115) rfl (by decide) rfl ?_
          refine y_iload_n (q := 116) rfl rfl rfl ?_
          refine y_iload_n (q := 117) rfl rfl rfl ?_
          refine y_ne (q := 124) (q' := 120) rfl rfl rfl rfl rfl (fun c22 => ?_) (fun c23 => ?_)
          · skip
            refine y_iconst (x := 1) (q := 121) rfl (by decide) rfl ?_
            refine y_goto (q := 125) rfl rfl ?_
            exact y_retI rfl (by decide) rfl rfl
          · skip
            refine y_iconst (x := 0) (q := 125) rfl (by decide) rfl ?_
            exact y_retI rfl (by decide) rfl rfl
    · skip
      refine y_aload_n (q := 78) rfl rfl rfl ?_
      refine y_getL (q := 81) rfl rfl (by decide) atM0 rfl rfl ?_
      refine y_ldc2_w (u := 60) (q := 84) rfl rfl rfl ?_
      refine y_lcmp (q := 85) rfl rfl ?_
      refine y_ne0 (q := 92) (q' := 88) rfl rfl rfl rfl (fun c24 => ?_) (fun c25 => ?_)
      · skip
        refine y_iconst (x := 1) (q := 89) rfl (by decide) rfl ?_
        refine y_goto (q := 93) rfl rfl ?_
        refine y_istore_n (lo' := [some (.ref 0), some (.int r4), some (.int 1), none]) (q := 94) rfl (Nat.le_of_ble_eq_true rfl) rfl rfl ?_
        refine y_aload_n (q := 95) rfl rfl rfl ?_
        refine y_callV (I := .invokevirtual 209) (idx := 209) (KD := 1) (J := 145) (mj := mj135) (as := [.ref 0]) (r := []) (q := 98) rfl (fun _ _ _ _ _ _ => rfl) rfl (by decide) rfl rfl rfl rfl rfl (Nat.le_of_ble_eq_true rfl) (d_recv atM0 (by decide) (by decide)) rfl (m_X7_next (Nat.le_trans (by decide) hd)  g5) (fun g26 => ?_)
        refine y_aload_n (q := 99) rfl rfl rfl ?_
        refine y_callI (I := .invokevirtual 309) (idx := 309) (KD := 1) (J := 172) (mj := mj162) (as := [.ref 0]) (r := []) (q := 102) rfl (fun _ _ _ _ _ _ => rfl) rfl (by decide) rfl rfl rfl rfl rfl (Nat.le_of_ble_eq_true rfl) (d_recv atM0 (by decide) (by decide)) rfl (m_X7_added2 (Nat.le_trans (by decide) hd)  g26) (fun r27 g28 => ?_)
        refine y_istore_n (lo' := [some (.ref 0), some (.int r4), some (.int 1), some (.int r27)]) (q := 103) rfl (Nat.le_of_ble_eq_true rfl) rfl rfl ?_
        refine y_iload_n (q := 104) rfl rfl rfl ?_
        refine y_ifF (q := 107) rfl (by decide) rfl rfl ?_
        refine y_iload_n (q := 108) rfl rfl rfl ?_
        refine y_iload_n (q := 109) rfl rfl rfl ?_
        refine y_ge (q := 124) (q' := 112) rfl rfl rfl rfl rfl (fun c29 => ?_) (fun c30 => ?_)
        · skip
          refine y_goto (q := 120) rfl rfl ?_
          refine y_iconst (x := 1) (q := 121) rfl (by decide) rfl ?_
          refine y_goto (q := 125) rfl rfl ?_
          exact y_retI rfl (by decide) rfl rfl
        · skip
          refine y_iconst (x := 0) (q := 125) rfl (by decide) rfl ?_
          exact y_retI rfl (by decide) rfl rfl
      · skip
        refine y_iconst (x := 0) (q := 93) rfl (by decide) rfl ?_
        refine y_istore_n (lo' := [some (.ref 0), some (.int r4), some (.int 0), none]) (q := 94) rfl (Nat.le_of_ble_eq_true rfl) rfl rfl ?_
        refine y_aload_n (q := 95) rfl rfl rfl ?_
        refine y_callV (I := .invokevirtual 209) (idx := 209) (KD := 1) (J := 145) (mj := mj135) (as := [.ref 0]) (r := []) (q := 98) rfl (fun _ _ _ _ _ _ => rfl) rfl (by decide) rfl rfl rfl rfl rfl (Nat.le_of_ble_eq_true rfl) (d_recv atM0 (by decide) (by decide)) rfl (m_X7_next (Nat.le_trans (by decide) hd)  g5) (fun g31 => ?_)
        refine y_aload_n (q := 99) rfl rfl rfl ?_
        refine y_callI (I := .invokevirtual 309) (idx := 309) (KD := 1) (J := 172) (mj := mj162) (as := [.ref 0]) (r := []) (q := 102) rfl (fun _ _ _ _ _ _ => rfl) rfl (by decide) rfl rfl rfl rfl rfl (Nat.le_of_ble_eq_true rfl) (d_recv atM0 (by decide) (by decide)) rfl (m_X7_added2 (Nat.le_trans (by decide) hd)  g31) (fun r32 g33 => ?_)
        refine y_istore_n (lo' := [some (.ref 0), some (.int r4), some (.int 0), some (.int r32)]) (q := 103) rfl (Nat.le_of_ble_eq_true rfl) rfl rfl ?_
        refine y_iload_n (q := 104) rfl rfl rfl ?_
        refine y_ifT (q := 115) rfl (by decide) rfl ?_
        refine y_iload_n (q := 116) rfl rfl rfl ?_
        refine y_iload_n (q := 117) rfl rfl rfl ?_
        refine y_ne (q := 124) (q' := 120) rfl rfl rfl rfl rfl (fun c34 => ?_) (fun c35 => ?_)
        · skip
          refine y_iconst (x := 1) (q := 121) rfl (by decide) rfl ?_
          refine y_goto (q := 125) rfl rfl ?_
          exact y_retI rfl (by decide) rfl rfl
        · skip
          refine y_iconst (x := 0) (q := 125) rfl (by decide) rfl ?_
          exact y_retI rfl (by decide) rfl rfl
  · skip
    refine y_aload_n (q := 19) rfl rfl rfl ?_
    refine y_callI (I := .invokevirtual 237) (idx := 237) (KD := 1) (J := 150) (mj := mj140) (as := [.ref 0]) (r := []) (q := 22) rfl (fun _ _ _ _ _ _ => rfl) rfl (by decide) rfl rfl rfl rfl rfl (Nat.le_of_ble_eq_true rfl) (d_recv atM0 (by decide) (by decide)) rfl (m_X7_opens (Nat.le_trans (by decide) hd)  h) (fun r36 g37 => ?_)
    refine y_ne0 (q := 27) (q' := 25) rfl rfl rfl rfl (fun c38 => ?_) (fun c39 => ?_)
    · skip
      refine y_iconst (x := 0) (q := 26) rfl (by decide) rfl ?_
      exact y_retI rfl (by decide) rfl rfl
    · skip
      refine y_aload_n (q := 28) rfl rfl rfl ?_
      refine y_callI (I := .invokevirtual 294) (idx := 294) (KD := 1) (J := 167) (mj := mj157) (as := [.ref 0]) (r := []) (q := 31) rfl (fun _ _ _ _ _ _ => rfl) rfl (by decide) rfl rfl rfl rfl rfl (Nat.le_of_ble_eq_true rfl) (d_recv atM0 (by decide) (by decide)) rfl (m_X7_not3 (Nat.le_trans (by decide) hd)  g37) (fun r40 g41 => ?_)
      refine y_istore_n (lo' := [some (.ref 0), some (.int r40), none, none]) (q := 32) rfl (Nat.le_of_ble_eq_true rfl) rfl rfl ?_
      refine y_aload_n (q := 33) rfl rfl rfl ?_
      refine y_dup (q := 34) rfl rfl ?_
      refine y_getI (q := 37) rfl rfl (by decide) atM0 rfl rfl ?_
      refine y_iconst (x := 1) (q := 38) rfl (by decide) rfl ?_
      refine y_isub (q := 39) rfl rfl ?_
      refine y_putI (q := 42) rfl rfl (by decide) atM0 rfl rfl rfl rfl (fun g42 => ?_)
      refine y_iload_n (q := 43) rfl rfl rfl ?_
      refine y_ne0 (q := 50) (q' := 46) rfl rfl rfl rfl (fun c43 => ?_) (fun c44 => ?_)
      · skip
        refine y_iconst (x := 1) (q := 47) rfl (by decide) rfl ?_
        refine y_goto (q := 51) rfl rfl ?_
        exact y_retI rfl (by decide) rfl rfl
      · skip
        refine y_iconst (x := 0) (q := 51) rfl (by decide) rfl ?_
        exact y_retI rfl (by decide) rfl rfl
def l_X7_both2_5  (k : Int32 → dH → Option (Int32 × dH)) : Nat → Int32 → dH → Option (Int32 × dH)
  | 0, _, _ => none
  | n + 1, v1, h => oP (f_X7_isWord 97 110 100 0 0 0 0 0 h) (fun r3 => if r3.toInt = 0 then (k v1 h) else (oV (f_X7_next  h) (fun g6 => oI (f_X7_not2  g6) (fun r7 g8 => if v1.toInt = 0 then (l_X7_both2_5  k n 0 g8) else (if r7.toInt = 0 then (l_X7_both2_5  k n 0 g8) else (l_X7_both2_5  k n 1 g8))))))
theorem lz_X7_both2_5 {d : Nat} (hd : 26 ≤ d)  (k : Int32 → dH → Option (Int32 × dH)) (hk : ∀ (v1 : Int32) (z2 : Option Value) (h : dH), dY shM d mj164 dI (k v1 h) 49 [some (.ref 0), some (.int v1), z2] [] h) : ∀ (n : Nat) (v1 : Int32) (h : dH) (z2 : Option Value), dY shM d mj164 dI (l_X7_both2_5  k n v1 h) 5 [some (.ref 0), some (.int v1), z2] [] h
  | 0, _, _, _ => dY_none
  | n + 1, v1, h, z2 => by
    rw [l_X7_both2_5]
    refine y_aload_n (q := 6) rfl rfl rfl ?_
    refine y_bipush (x := 97) (q := 8) rfl (by decide) rfl ?_
    refine y_bipush (x := 110) (q := 10) rfl (by decide) rfl ?_
    refine y_bipush (x := 100) (q := 12) rfl (by decide) rfl ?_
    refine y_iconst (x := 0) (q := 13) rfl (by decide) rfl ?_
    refine y_iconst (x := 0) (q := 14) rfl (by decide) rfl ?_
    refine y_iconst (x := 0) (q := 15) rfl (by decide) rfl ?_
    refine y_iconst (x := 0) (q := 16) rfl (by decide) rfl ?_
    refine y_iconst (x := 0) (q := 17) rfl (by decide) rfl ?_
    refine y_callP (I := .invokevirtual 212) (idx := 212) (KD := 1) (J := 148) (mj := mj138) (as := [.ref 0, .int 97, .int 110, .int 100, .int 0, .int 0, .int 0, .int 0, .int 0]) (r := []) (q := 20) rfl (fun _ _ _ _ _ _ => rfl) rfl (by decide) rfl rfl rfl rfl rfl (Nat.le_of_ble_eq_true rfl) (d_recv atM0 (by decide) (by decide)) rfl (m_X7_isWord (Nat.le_trans (by decide) hd) 97 110 100 0 0 0 0 0 h) (fun r3 => ?_)
    refine y_eq0 (q := 49) (q' := 23) rfl rfl rfl rfl (fun c4 => ?_) (fun c5 => ?_)
    · skip
      exact hk v1 (z2) h
    · skip
      refine y_aload_n (q := 24) rfl rfl rfl ?_
      refine y_callV (I := .invokevirtual 209) (idx := 209) (KD := 1) (J := 145) (mj := mj135) (as := [.ref 0]) (r := []) (q := 27) rfl (fun _ _ _ _ _ _ => rfl) rfl (by decide) rfl rfl rfl rfl rfl (Nat.le_of_ble_eq_true rfl) (d_recv atM0 (by decide) (by decide)) rfl (m_X7_next (Nat.le_trans (by decide) hd)  h) (fun g6 => ?_)
      refine y_aload_n (q := 28) rfl rfl rfl ?_
      refine y_callI (I := .invokevirtual 312) (idx := 312) (KD := 1) (J := 173) (mj := mj163) (as := [.ref 0]) (r := []) (q := 31) rfl (fun _ _ _ _ _ _ => rfl) rfl (by decide) rfl rfl rfl rfl rfl (Nat.le_of_ble_eq_true rfl) (d_recv atM0 (by decide) (by decide)) rfl (m_X7_not2 (Nat.le_trans (by decide) hd)  g6) (fun r7 g8 => ?_)
      refine y_istore_n (lo' := [some (.ref 0), some (.int v1), some (.int r7)]) (q := 32) rfl (Nat.le_of_ble_eq_true rfl) rfl rfl ?_
      refine y_iload_n (q := 33) rfl rfl rfl ?_
      refine y_eq0 (q := 44) (q' := 36) rfl rfl rfl rfl (fun c9 => ?_) (fun c10 => ?_)
      · skip
        refine y_iconst (x := 0) (q := 45) rfl (by decide) rfl ?_
        refine y_istore_n (lo' := [some (.ref 0), some (.int 0), some (.int r7)]) (q := 46) rfl (Nat.le_of_ble_eq_true rfl) rfl rfl ?_
        refine y_goto (q := 5) rfl rfl ?_
        exact lz_X7_both2_5 hd  k hk n 0 g8 (some (.int r7))
      · skip
        refine y_iload_n (q := 37) rfl rfl rfl ?_
        refine y_eq0 (q := 44) (q' := 40) rfl rfl rfl rfl (fun c11 => ?_) (fun c12 => ?_)
        · skip
          refine y_iconst (x := 0) (q := 45) rfl (by decide) rfl ?_
          refine y_istore_n (lo' := [some (.ref 0), some (.int 0), some (.int r7)]) (q := 46) rfl (Nat.le_of_ble_eq_true rfl) rfl rfl ?_
          refine y_goto (q := 5) rfl rfl ?_
          exact lz_X7_both2_5 hd  k hk n 0 g8 (some (.int r7))
        · skip
          refine y_iconst (x := 1) (q := 41) rfl (by decide) rfl ?_
          refine y_goto (q := 45) rfl rfl ?_
          refine y_istore_n (lo' := [some (.ref 0), some (.int 1), some (.int r7)]) (q := 46) rfl (Nat.le_of_ble_eq_true rfl) rfl rfl ?_
          refine y_goto (q := 5) rfl rfl ?_
          exact lz_X7_both2_5 hd  k hk n 1 g8 (some (.int r7))
def f_X7_both2  (h : dH) : Option (Int32 × dH) := oI (f_X7_not2  h) (fun r1 g2 => l_X7_both2_5   (fun v1_13 g15 => some (v1_13, g15)) fuel0 r1 g2)
theorem m_X7_both2 {d : Nat} (hd : 27 ≤ d)  (h : dH) : dX shM d 164 [.ref 0] dI (f_X7_both2  h) h := by
  obtain ⟨e, rfl⟩ : ∃ e, d = e + 1 := ⟨d - 1, by omega⟩
  have hd : 26 ≤ e := by omega
  refine dX_of (mj := mj164) (lo := [some (.ref 0), none, none]) rfl (Nat.le_of_ble_eq_true rfl) rfl ?_
  unfold f_X7_both2
  refine y_aload_n (q := 1) rfl rfl rfl ?_
  refine y_callI (I := .invokevirtual 312) (idx := 312) (KD := 1) (J := 173) (mj := mj163) (as := [.ref 0]) (r := []) (q := 4) rfl (fun _ _ _ _ _ _ => rfl) rfl (by decide) rfl rfl rfl rfl rfl (Nat.le_of_ble_eq_true rfl) (d_recv atM0 (by decide) (by decide)) rfl (m_X7_not2 (Nat.le_trans (by decide) hd)  h) (fun r1 g2 => ?_)
  refine y_istore_n (lo' := [some (.ref 0), some (.int r1), none]) (q := 5) rfl (Nat.le_of_ble_eq_true rfl) rfl rfl ?_
  refine lz_X7_both2_5 hd   _ (fun v1_13 z14 g15 => ?_) fuel0 r1 g2 (none)
  refine y_iload_n (q := 50) rfl rfl rfl ?_
  exact y_retI rfl (by decide) rfl rfl
def l_X7_either2_5  (k : Int32 → dH → Option (Int32 × dH)) : Nat → Int32 → dH → Option (Int32 × dH)
  | 0, _, _ => none
  | n + 1, v1, h => oP (f_X7_isWord 111 114 0 0 0 0 0 0 h) (fun r3 => if r3.toInt = 0 then (k v1 h) else (oV (f_X7_next  h) (fun g6 => oI (f_X7_both2  g6) (fun r7 g8 => if v1.toInt = 0 then (if r7.toInt = 0 then (l_X7_either2_5  k n 0 g8) else (l_X7_either2_5  k n 1 g8)) else (l_X7_either2_5  k n 1 g8)))))
theorem lz_X7_either2_5 {d : Nat} (hd : 27 ≤ d)  (k : Int32 → dH → Option (Int32 × dH)) (hk : ∀ (v1 : Int32) (z2 : Option Value) (h : dH), dY shM d mj165 dI (k v1 h) 48 [some (.ref 0), some (.int v1), z2] [] h) : ∀ (n : Nat) (v1 : Int32) (h : dH) (z2 : Option Value), dY shM d mj165 dI (l_X7_either2_5  k n v1 h) 5 [some (.ref 0), some (.int v1), z2] [] h
  | 0, _, _, _ => dY_none
  | n + 1, v1, h, z2 => by
    rw [l_X7_either2_5]
    refine y_aload_n (q := 6) rfl rfl rfl ?_
    refine y_bipush (x := 111) (q := 8) rfl (by decide) rfl ?_
    refine y_bipush (x := 114) (q := 10) rfl (by decide) rfl ?_
    refine y_iconst (x := 0) (q := 11) rfl (by decide) rfl ?_
    refine y_iconst (x := 0) (q := 12) rfl (by decide) rfl ?_
    refine y_iconst (x := 0) (q := 13) rfl (by decide) rfl ?_
    refine y_iconst (x := 0) (q := 14) rfl (by decide) rfl ?_
    refine y_iconst (x := 0) (q := 15) rfl (by decide) rfl ?_
    refine y_iconst (x := 0) (q := 16) rfl (by decide) rfl ?_
    refine y_callP (I := .invokevirtual 212) (idx := 212) (KD := 1) (J := 148) (mj := mj138) (as := [.ref 0, .int 111, .int 114, .int 0, .int 0, .int 0, .int 0, .int 0, .int 0]) (r := []) (q := 19) rfl (fun _ _ _ _ _ _ => rfl) rfl (by decide) rfl rfl rfl rfl rfl (Nat.le_of_ble_eq_true rfl) (d_recv atM0 (by decide) (by decide)) rfl (m_X7_isWord (Nat.le_trans (by decide) hd) 111 114 0 0 0 0 0 0 h) (fun r3 => ?_)
    refine y_eq0 (q := 48) (q' := 22) rfl rfl rfl rfl (fun c4 => ?_) (fun c5 => ?_)
    · skip
      exact hk v1 (z2) h
    · skip
      refine y_aload_n (q := 23) rfl rfl rfl ?_
      refine y_callV (I := .invokevirtual 209) (idx := 209) (KD := 1) (J := 145) (mj := mj135) (as := [.ref 0]) (r := []) (q := 26) rfl (fun _ _ _ _ _ _ => rfl) rfl (by decide) rfl rfl rfl rfl rfl (Nat.le_of_ble_eq_true rfl) (d_recv atM0 (by decide) (by decide)) rfl (m_X7_next (Nat.le_trans (by decide) hd)  h) (fun g6 => ?_)
      refine y_aload_n (q := 27) rfl rfl rfl ?_
      refine y_callI (I := .invokevirtual 315) (idx := 315) (KD := 1) (J := 174) (mj := mj164) (as := [.ref 0]) (r := []) (q := 30) rfl (fun _ _ _ _ _ _ => rfl) rfl (by decide) rfl rfl rfl rfl rfl (Nat.le_of_ble_eq_true rfl) (d_recv atM0 (by decide) (by decide)) rfl (m_X7_both2 (Nat.le_trans (by decide) hd)  g6) (fun r7 g8 => ?_)
      refine y_istore_n (lo' := [some (.ref 0), some (.int v1), some (.int r7)]) (q := 31) rfl (Nat.le_of_ble_eq_true rfl) rfl rfl ?_
      refine y_iload_n (q := 32) rfl rfl rfl ?_
      refine y_ne0 (q := 39) (q' := 35) rfl rfl rfl rfl (fun c9 => ?_) (fun c10 => ?_)
      · skip
        refine y_iload_n (q := 36) rfl rfl rfl ?_
        refine y_eq0 (q := 43) (q' := 39) rfl rfl rfl rfl (fun c11 => ?_) (fun c12 => ?_)
        · skip
          refine y_iconst (x := 0) (q := 44) rfl (by decide) rfl ?_
          refine y_istore_n (lo' := [some (.ref 0), some (.int 0), some (.int r7)]) (q := 45) rfl (Nat.le_of_ble_eq_true rfl) rfl rfl ?_
          refine y_goto (q := 5) rfl rfl ?_
          exact lz_X7_either2_5 hd  k hk n 0 g8 (some (.int r7))
        · skip
          refine y_iconst (x := 1) (q := 40) rfl (by decide) rfl ?_
          refine y_goto (q := 44) rfl rfl ?_
          refine y_istore_n (lo' := [some (.ref 0), some (.int 1), some (.int r7)]) (q := 45) rfl (Nat.le_of_ble_eq_true rfl) rfl rfl ?_
          refine y_goto (q := 5) rfl rfl ?_
          exact lz_X7_either2_5 hd  k hk n 1 g8 (some (.int r7))
      · skip
        refine y_iconst (x := 1) (q := 40) rfl (by decide) rfl ?_
        refine y_goto (q := 44) rfl rfl ?_
        refine y_istore_n (lo' := [some (.ref 0), some (.int 1), some (.int r7)]) (q := 45) rfl (Nat.le_of_ble_eq_true rfl) rfl rfl ?_
        refine y_goto (q := 5) rfl rfl ?_
        exact lz_X7_either2_5 hd  k hk n 1 g8 (some (.int r7))
def f_X7_either2  (h : dH) : Option (Int32 × dH) := oI (f_X7_both2  h) (fun r1 g2 => l_X7_either2_5   (fun v1_13 g15 => some (v1_13, g15)) fuel0 r1 g2)
theorem m_X7_either2 {d : Nat} (hd : 28 ≤ d)  (h : dH) : dX shM d 165 [.ref 0] dI (f_X7_either2  h) h := by
  obtain ⟨e, rfl⟩ : ∃ e, d = e + 1 := ⟨d - 1, by omega⟩
  have hd : 27 ≤ e := by omega
  refine dX_of (mj := mj165) (lo := [some (.ref 0), none, none]) rfl (Nat.le_of_ble_eq_true rfl) rfl ?_
  unfold f_X7_either2
  refine y_aload_n (q := 1) rfl rfl rfl ?_
  refine y_callI (I := .invokevirtual 315) (idx := 315) (KD := 1) (J := 174) (mj := mj164) (as := [.ref 0]) (r := []) (q := 4) rfl (fun _ _ _ _ _ _ => rfl) rfl (by decide) rfl rfl rfl rfl rfl (Nat.le_of_ble_eq_true rfl) (d_recv atM0 (by decide) (by decide)) rfl (m_X7_both2 (Nat.le_trans (by decide) hd)  h) (fun r1 g2 => ?_)
  refine y_istore_n (lo' := [some (.ref 0), some (.int r1), none]) (q := 5) rfl (Nat.le_of_ble_eq_true rfl) rfl rfl ?_
  refine lz_X7_either2_5 hd   _ (fun v1_13 z14 g15 => ?_) fuel0 r1 g2 (none)
  refine y_iload_n (q := 49) rfl rfl rfl ?_
  exact y_retI rfl (by decide) rfl rfl
def f_X7_atom1  (h : dH) : Option (Int32 × dH) := oP (f_X7_isSign 45 h) (fun r1 => if r1.toInt = 0 then (oP (f_X7_isSign 40 h) (fun r4 => if r4.toInt = 0 then (if (h 0 27).toInt = 0 then (if (h 0 23).toInt = 2 then (oV (f_X7_next  h) (fun g11 => some ((h 0 25).toInt64.toInt32, g11))) else (if (h 0 27).toInt = 0 then (if (h 0 23).toInt = 1 then (oI (f_X7_name  h) (fun r16 g17 => if (g17 0 27).toInt = 0 then (oV (f_X7_next  g17) (fun g20 => some (r16, g20))) else (some (r16, g17)))) else (oV (f_X7_fail  h) (fun g21 => some (0, g21)))) else (oV (f_X7_fail  h) (fun g22 => some (0, g22))))) else (if (h 0 27).toInt = 0 then (if (h 0 23).toInt = 1 then (oI (f_X7_name  h) (fun r27 g28 => if (g28 0 27).toInt = 0 then (oV (f_X7_next  g28) (fun g31 => some (r27, g31))) else (some (r27, g28)))) else (oV (f_X7_fail  h) (fun g32 => some (0, g32)))) else (oV (f_X7_fail  h) (fun g33 => some (0, g33))))) else (oI (f_X7_opens  h) (fun r34 g35 => if r34.toInt = 0 then (some (0, g35)) else (oI (f_X7_either2  g35) (fun r38 g39 => oP (f_X7_isSign 41 g39) (fun r40 => if r40.toInt = 0 then (oV (f_X7_fail  g39) (fun g43 => oH (dU g43 0 26 ((g43 0 26) - 1)) (fun g44 => if (g44 0 27).toInt = 0 then (oV (f_X7_next  g44) (fun g47 => some (r38, g47))) else (some (r38, g44))))) else (oH (dU g39 0 26 ((g39 0 26) - 1)) (fun g48 => if (g48 0 27).toInt = 0 then (oV (f_X7_next  g48) (fun g51 => some (r38, g51))) else (some (r38, g48))))))))))) else (oI (f_X7_opens  h) (fun r52 g53 => if r52.toInt = 0 then (some (0, g53)) else (oI (f_X7_atom2  g53) (fun r56 g57 => oH (dU g57 0 26 ((g57 0 26) - 1)) (fun g58 => some ((-r56), g58)))))))
theorem m_X7_atom1 {d : Nat} (hd : 29 ≤ d)  (h : dH) : dX shM d 166 [.ref 0] dI (f_X7_atom1  h) h := by
  obtain ⟨e, rfl⟩ : ∃ e, d = e + 1 := ⟨d - 1, by omega⟩
  have hd : 28 ≤ e := by omega
  refine dX_of (mj := mj166) (lo := [some (.ref 0), none]) rfl (Nat.le_of_ble_eq_true rfl) rfl ?_
  unfold f_X7_atom1
  refine y_iconst (x := 0) (q := 1) rfl (by decide) rfl ?_
  refine y_istore_n (lo' := [some (.ref 0), some (.int 0)]) (q := 2) rfl (Nat.le_of_ble_eq_true rfl) rfl rfl ?_
  refine y_aload_n (q := 3) rfl rfl rfl ?_
  refine y_bipush (x := 45) (q := 5) rfl (by decide) rfl ?_
  refine y_callP (I := .invokevirtual 234) (idx := 234) (KD := 1) (J := 149) (mj := mj139) (as := [.ref 0, .int 45]) (r := []) (q := 8) rfl (fun _ _ _ _ _ _ => rfl) rfl (by decide) rfl rfl rfl rfl rfl (Nat.le_of_ble_eq_true rfl) (d_recv atM0 (by decide) (by decide)) rfl (m_X7_isSign (Nat.le_trans (by decide) hd) 45 h) (fun r1 => ?_)
  refine y_eq0 (q := 37) (q' := 11) rfl rfl rfl rfl (fun c2 => ?_) (fun c3 => ?_)
  · skip
    refine y_aload_n (q := 38) rfl rfl rfl ?_
    refine y_bipush (x := 40) (q := 40) rfl (by decide) rfl ?_
    refine y_callP (I := .invokevirtual 234) (idx := 234) (KD := 1) (J := 149) (mj := mj139) (as := [.ref 0, .int 40]) (r := []) (q := 43) rfl (fun _ _ _ _ _ _ => rfl) rfl (by decide) rfl rfl rfl rfl rfl (Nat.le_of_ble_eq_true rfl) (d_recv atM0 (by decide) (by decide)) rfl (m_X7_isSign (Nat.le_trans (by decide) hd) 40 h) (fun r4 => ?_)
    refine y_eq0 (q := 95) (q' := 46) rfl rfl rfl rfl (fun c5 => ?_) (fun c6 => ?_)
    · skip
      refine y_aload_n (q := 96) rfl rfl rfl ?_
      refine y_getI (q := 99) rfl rfl (by decide) atM0 rfl rfl ?_
      refine y_ne0 (q := 123) (q' := 102) rfl rfl rfl rfl (fun c7 => ?_) (fun c8 => ?_)
      · skip
        refine y_aload_n (q := 103) rfl rfl rfl ?_
        refine y_getI (q := 106) rfl rfl (by decide) atM0 rfl rfl ?_
        refine y_iconst (x := 2) (q := 107) rfl (by decide) rfl ?_
        refine y_ne (q := 123) (q' := 110) rfl rfl (by decide) rfl rfl (fun c9 => ?_) (fun c10 => ?_)
        · skip
          refine y_aload_n (q := 111) rfl rfl rfl ?_
          refine y_getL (q := 114) rfl rfl (by decide) atM0 rfl rfl ?_
          refine y_l2i (q := 115) rfl rfl ?_
          refine y_istore_n (lo' := [some (.ref 0), some (.int (h 0 25).toInt64.toInt32)]) (q := 116) rfl (Nat.le_of_ble_eq_true rfl) rfl rfl ?_
          refine y_aload_n (q := 117) rfl rfl rfl ?_
          refine y_callV (I := .invokevirtual 209) (idx := 209) (KD := 1) (J := 145) (mj := mj135) (as := [.ref 0]) (r := []) (q := 120) rfl (fun _ _ _ _ _ _ => rfl) rfl (by decide) rfl rfl rfl rfl rfl (Nat.le_of_ble_eq_true rfl) (d_recv atM0 (by decide) (by decide)) rfl (m_X7_next (Nat.le_trans (by decide) hd)  h) (fun g11 => ?_)
          refine y_goto (q := 161) rfl rfl ?_
          refine y_iload_n (q := 162) rfl rfl rfl ?_
          exact y_retI rfl (by decide) rfl rfl
        · skip
          refine y_aload_n (q := 124) rfl rfl rfl ?_
          refine y_getI (q := 127) rfl rfl (by decide) atM0 rfl rfl ?_
          refine y_ne0 (q := 157) (q' := 130) rfl rfl rfl rfl (fun c12 => ?_) (fun c13 => ?_)
          · skip
            refine y_aload_n (q := 131) rfl rfl rfl ?_
            refine y_getI (q := 134) rfl rfl (by decide) atM0 rfl rfl ?_
            refine y_iconst (x := 1) (q := 135) rfl (by decide) rfl ?_
            refine y_ne (q := 157) (q' := 138) rfl rfl (by decide) rfl rfl (fun c14 => ?_) (fun c15 => ?_)
            · skip
              refine y_aload_n (q := 139) rfl rfl rfl ?_
              refine y_callI (I := .invokevirtual 241) (idx := 241) (KD := 1) (J := 151) (mj := mj141) (as := [.ref 0]) (r := []) (q := 142) rfl (fun _ _ _ _ _ _ => rfl) rfl (by decide) rfl rfl rfl rfl rfl (Nat.le_of_ble_eq_true rfl) (d_recv atM0 (by decide) (by decide)) rfl (m_X7_name (Nat.le_trans (by decide) hd)  h) (fun r16 g17 => ?_)
              refine y_istore_n (lo' := [some (.ref 0), some (.int r16)]) (q := 143) rfl (Nat.le_of_ble_eq_true rfl) rfl rfl ?_
              refine y_aload_n (q := 144) rfl rfl rfl ?_
              refine y_getI (q := 147) rfl rfl (by decide) atM0 rfl rfl ?_
              refine y_ne0 (q := 161) (q' := 150) rfl rfl rfl rfl (fun c18 => ?_) (fun c19 => ?_)
              · skip
                refine y_aload_n (q := 151) rfl rfl rfl ?_
                refine y_callV (I := .invokevirtual 209) (idx := 209) (KD := 1) (J := 145) (mj := mj135) (as := [.ref 0]) (r := []) (q := 154) rfl (fun _ _ _ _ _ _ => rfl) rfl (by decide) rfl rfl rfl rfl rfl (Nat.le_of_ble_eq_true rfl) (d_recv atM0 (by decide) (by decide)) rfl (m_X7_next (Nat.le_trans (by decide) hd)  g17) (fun g20 => ?_)
                refine y_goto (q := 161) rfl rfl ?_
                refine y_iload_n (q := 162) rfl rfl rfl ?_
                exact y_retI rfl (by decide) rfl rfl
              · skip
                refine y_iload_n (q := 162) rfl rfl rfl ?_
                exact y_retI rfl (by decide) rfl rfl
            · skip
              refine y_aload_n (q := 158) rfl rfl rfl ?_
              refine y_callV (I := .invokevirtual 206) (idx := 206) (KD := 1) (J := 146) (mj := mj136) (as := [.ref 0]) (r := []) (q := 161) rfl (fun _ _ _ _ _ _ => rfl) rfl (by decide) rfl rfl rfl rfl rfl (Nat.le_of_ble_eq_true rfl) (d_recv atM0 (by decide) (by decide)) rfl (m_X7_fail (Nat.le_trans (by decide) hd)  h) (fun g21 => ?_)
              refine y_iload_n (q := 162) rfl rfl rfl ?_
              exact y_retI rfl (by decide) rfl rfl
          · skip
            refine y_aload_n (q := 158) rfl rfl rfl ?_
            refine y_callV (I := .invokevirtual 206) (idx := 206) (KD := 1) (J := 146) (mj := mj136) (as := [.ref 0]) (r := []) (q := 161) rfl (fun _ _ _ _ _ _ => rfl) rfl (by decide) rfl rfl rfl rfl rfl (Nat.le_of_ble_eq_true rfl) (d_recv atM0 (by decide) (by decide)) rfl (m_X7_fail (Nat.le_trans (by decide) hd)  h) (fun g22 => ?_)
            refine y_iload_n (q := 162) rfl rfl rfl ?_
            exact y_retI rfl (by decide) rfl rfl
      · skip
        refine y_aload_n (q := 124) rfl rfl rfl ?_
        refine y_getI (q := 127) rfl rfl (by decide) atM0 rfl rfl ?_
        refine y_ne0 (q := 157) (q' := 130) rfl rfl rfl rfl (fun c23 => ?_) (fun c24 => ?_)
        · skip
          refine y_aload_n (q := 131) rfl rfl rfl ?_
          refine y_getI (q := 134) rfl rfl (by decide) atM0 rfl rfl ?_
          refine y_iconst (x := 1) (q := 135) rfl (by decide) rfl ?_
          refine y_ne (q := 157) (q' := 138) rfl rfl (by decide) rfl rfl (fun c25 => ?_) (fun c26 => ?_)
          · skip
            refine y_aload_n (q := 139) rfl rfl rfl ?_
            refine y_callI (I := .invokevirtual 241) (idx := 241) (KD := 1) (J := 151) (mj := mj141) (as := [.ref 0]) (r := []) (q := 142) rfl (fun _ _ _ _ _ _ => rfl) rfl (by decide) rfl rfl rfl rfl rfl (Nat.le_of_ble_eq_true rfl) (d_recv atM0 (by decide) (by decide)) rfl (m_X7_name (Nat.le_trans (by decide) hd)  h) (fun r27 g28 => ?_)
            refine y_istore_n (lo' := [some (.ref 0), some (.int r27)]) (q := 143) rfl (Nat.le_of_ble_eq_true rfl) rfl rfl ?_
            refine y_aload_n (q := 144) rfl rfl rfl ?_
            refine y_getI (q := 147) rfl rfl (by decide) atM0 rfl rfl ?_
            refine y_ne0 (q := 161) (q' := 150) rfl rfl rfl rfl (fun c29 => ?_) (fun c30 => ?_)
            · skip
              refine y_aload_n (q := 151) rfl rfl rfl ?_
              refine y_callV (I := .invokevirtual 209) (idx := 209) (KD := 1) (J := 145) (mj := mj135) (as := [.ref 0]) (r := []) (q := 154) rfl (fun _ _ _ _ _ _ => rfl) rfl (by decide) rfl rfl rfl rfl rfl (Nat.le_of_ble_eq_true rfl) (d_recv atM0 (by decide) (by decide)) rfl (m_X7_next (Nat.le_trans (by decide) hd)  g28) (fun g31 => ?_)
              refine y_goto (q := 161) rfl rfl ?_
              refine y_iload_n (q := 162) rfl rfl rfl ?_
              exact y_retI rfl (by decide) rfl rfl
            · skip
              refine y_iload_n (q := 162) rfl rfl rfl ?_
              exact y_retI rfl (by decide) rfl rfl
          · skip
            refine y_aload_n (q := 158) rfl rfl rfl ?_
            refine y_callV (I := .invokevirtual 206) (idx := 206) (KD := 1) (J := 146) (mj := mj136) (as := [.ref 0]) (r := []) (q := 161) rfl (fun _ _ _ _ _ _ => rfl) rfl (by decide) rfl rfl rfl rfl rfl (Nat.le_of_ble_eq_true rfl) (d_recv atM0 (by decide) (by decide)) rfl (m_X7_fail (Nat.le_trans (by decide) hd)  h) (fun g32 => ?_)
            refine y_iload_n (q := 162) rfl rfl rfl ?_
            exact y_retI rfl (by decide) rfl rfl
        · skip
          refine y_aload_n (q := 158) rfl rfl rfl ?_
          refine y_callV (I := .invokevirtual 206) (idx := 206) (KD := 1) (J := 146) (mj := mj136) (as := [.ref 0]) (r := []) (q := 161) rfl (fun _ _ _ _ _ _ => rfl) rfl (by decide) rfl rfl rfl rfl rfl (Nat.le_of_ble_eq_true rfl) (d_recv atM0 (by decide) (by decide)) rfl (m_X7_fail (Nat.le_trans (by decide) hd)  h) (fun g33 => ?_)
          refine y_iload_n (q := 162) rfl rfl rfl ?_
          exact y_retI rfl (by decide) rfl rfl
    · skip
      refine y_aload_n (q := 47) rfl rfl rfl ?_
      refine y_callI (I := .invokevirtual 237) (idx := 237) (KD := 1) (J := 150) (mj := mj140) (as := [.ref 0]) (r := []) (q := 50) rfl (fun _ _ _ _ _ _ => rfl) rfl (by decide) rfl rfl rfl rfl rfl (Nat.le_of_ble_eq_true rfl) (d_recv atM0 (by decide) (by decide)) rfl (m_X7_opens (Nat.le_trans (by decide) hd)  h) (fun r34 g35 => ?_)
      refine y_eq0 (q := 161) (q' := 53) rfl rfl rfl rfl (fun c36 => ?_) (fun c37 => ?_)
      · skip
        refine y_iload_n (q := 162) rfl rfl rfl ?_
        exact y_retI rfl (by decide) rfl rfl
      · skip
        refine y_aload_n (q := 54) rfl rfl rfl ?_
        refine y_callI (I := .invokevirtual 318) (idx := 318) (KD := 1) (J := 175) (mj := mj165) (as := [.ref 0]) (r := []) (q := 57) rfl (fun _ _ _ _ _ _ => rfl) rfl (by decide) rfl rfl rfl rfl rfl (Nat.le_of_ble_eq_true rfl) (d_recv atM0 (by decide) (by decide)) rfl (m_X7_either2 (Nat.le_trans (by decide) hd)  g35) (fun r38 g39 => ?_)
        refine y_istore_n (lo' := [some (.ref 0), some (.int r38)]) (q := 58) rfl (Nat.le_of_ble_eq_true rfl) rfl rfl ?_
        refine y_aload_n (q := 59) rfl rfl rfl ?_
        refine y_bipush (x := 41) (q := 61) rfl (by decide) rfl ?_
        refine y_callP (I := .invokevirtual 234) (idx := 234) (KD := 1) (J := 149) (mj := mj139) (as := [.ref 0, .int 41]) (r := []) (q := 64) rfl (fun _ _ _ _ _ _ => rfl) rfl (by decide) rfl rfl rfl rfl rfl (Nat.le_of_ble_eq_true rfl) (d_recv atM0 (by decide) (by decide)) rfl (m_X7_isSign (Nat.le_trans (by decide) hd) 41 g39) (fun r40 => ?_)
        refine y_ne0 (q := 71) (q' := 67) rfl rfl rfl rfl (fun c41 => ?_) (fun c42 => ?_)
        · skip
          refine y_aload_n (q := 68) rfl rfl rfl ?_
          refine y_callV (I := .invokevirtual 206) (idx := 206) (KD := 1) (J := 146) (mj := mj136) (as := [.ref 0]) (r := []) (q := 71) rfl (fun _ _ _ _ _ _ => rfl) rfl (by decide) rfl rfl rfl rfl rfl (Nat.le_of_ble_eq_true rfl) (d_recv atM0 (by decide) (by decide)) rfl (m_X7_fail (Nat.le_trans (by decide) hd)  g39) (fun g43 => ?_)
          refine y_aload_n (q := 72) rfl rfl rfl ?_
          refine y_dup (q := 73) rfl rfl ?_
          refine y_getI (q := 76) rfl rfl (by decide) atM0 rfl rfl ?_
          refine y_iconst (x := 1) (q := 77) rfl (by decide) rfl ?_
          refine y_isub (q := 78) rfl rfl ?_
          refine y_putI (q := 81) rfl rfl (by decide) atM0 rfl rfl rfl rfl (fun g44 => ?_)
          refine y_aload_n (q := 82) rfl rfl rfl ?_
          refine y_getI (q := 85) rfl rfl (by decide) atM0 rfl rfl ?_
          refine y_ne0 (q := 161) (q' := 88) rfl rfl rfl rfl (fun c45 => ?_) (fun c46 => ?_)
          · skip
            refine y_aload_n (q := 89) rfl rfl rfl ?_
            refine y_callV (I := .invokevirtual 209) (idx := 209) (KD := 1) (J := 145) (mj := mj135) (as := [.ref 0]) (r := []) (q := 92) rfl (fun _ _ _ _ _ _ => rfl) rfl (by decide) rfl rfl rfl rfl rfl (Nat.le_of_ble_eq_true rfl) (d_recv atM0 (by decide) (by decide)) rfl (m_X7_next (Nat.le_trans (by decide) hd)  g44) (fun g47 => ?_)
            refine y_goto (q := 161) rfl rfl ?_
            refine y_iload_n (q := 162) rfl rfl rfl ?_
            exact y_retI rfl (by decide) rfl rfl
          · skip
            refine y_iload_n (q := 162) rfl rfl rfl ?_
            exact y_retI rfl (by decide) rfl rfl
        · skip
          refine y_aload_n (q := 72) rfl rfl rfl ?_
          refine y_dup (q := 73) rfl rfl ?_
          refine y_getI (q := 76) rfl rfl (by decide) atM0 rfl rfl ?_
          refine y_iconst (x := 1) (q := 77) rfl (by decide) rfl ?_
          refine y_isub (q := 78) rfl rfl ?_
          refine y_putI (q := 81) rfl rfl (by decide) atM0 rfl rfl rfl rfl (fun g48 => ?_)
          refine y_aload_n (q := 82) rfl rfl rfl ?_
          refine y_getI (q := 85) rfl rfl (by decide) atM0 rfl rfl ?_
          refine y_ne0 (q := 161) (q' := 88) rfl rfl rfl rfl (fun c49 => ?_) (fun c50 => ?_)
          · skip
            refine y_aload_n (q := 89) rfl rfl rfl ?_
            refine y_callV (I := .invokevirtual 209) (idx := 209) (KD := 1) (J := 145) (mj := mj135) (as := [.ref 0]) (r := []) (q := 92) rfl (fun _ _ _ _ _ _ => rfl) rfl (by decide) rfl rfl rfl rfl rfl (Nat.le_of_ble_eq_true rfl) (d_recv atM0 (by decide) (by decide)) rfl (m_X7_next (Nat.le_trans (by decide) hd)  g48) (fun g51 => ?_)
            refine y_goto (q := 161) rfl rfl ?_
            refine y_iload_n (q := 162) rfl rfl rfl ?_
            exact y_retI rfl (by decide) rfl rfl
          · skip
            refine y_iload_n (q := 162) rfl rfl rfl ?_
            exact y_retI rfl (by decide) rfl rfl
  · skip
    refine y_aload_n (q := 12) rfl rfl rfl ?_
    refine y_callI (I := .invokevirtual 237) (idx := 237) (KD := 1) (J := 150) (mj := mj140) (as := [.ref 0]) (r := []) (q := 15) rfl (fun _ _ _ _ _ _ => rfl) rfl (by decide) rfl rfl rfl rfl rfl (Nat.le_of_ble_eq_true rfl) (d_recv atM0 (by decide) (by decide)) rfl (m_X7_opens (Nat.le_trans (by decide) hd)  h) (fun r52 g53 => ?_)
    refine y_eq0 (q := 161) (q' := 18) rfl rfl rfl rfl (fun c54 => ?_) (fun c55 => ?_)
    · skip
      refine y_iload_n (q := 162) rfl rfl rfl ?_
      exact y_retI rfl (by decide) rfl rfl
    · skip
      refine y_aload_n (q := 19) rfl rfl rfl ?_
      refine y_callI (I := .invokevirtual 303) (idx := 303) (KD := 1) (J := 170) (mj := mj160) (as := [.ref 0]) (r := []) (q := 22) rfl (fun _ _ _ _ _ _ => rfl) rfl (by decide) rfl rfl rfl rfl rfl (Nat.le_of_ble_eq_true rfl) (d_recv atM0 (by decide) (by decide)) rfl (m_X7_atom2 (Nat.le_trans (by decide) hd)  g53) (fun r56 g57 => ?_)
      refine y_ineg (q := 23) rfl rfl ?_
      refine y_istore_n (lo' := [some (.ref 0), some (.int (-r56))]) (q := 24) rfl (Nat.le_of_ble_eq_true rfl) rfl rfl ?_
      refine y_aload_n (q := 25) rfl rfl rfl ?_
      refine y_dup (q := 26) rfl rfl ?_
      refine y_getI (q := 29) rfl rfl (by decide) atM0 rfl rfl ?_
      refine y_iconst (x := 1) (q := 30) rfl (by decide) rfl ?_
      refine y_isub (q := 31) rfl rfl ?_
      refine y_putI (q := 34) rfl rfl (by decide) atM0 rfl rfl rfl rfl (fun g58 => ?_)
      refine y_goto (q := 161) rfl rfl ?_
      refine y_iload_n (q := 162) rfl rfl rfl ?_
      exact y_retI rfl (by decide) rfl rfl
def l_X7_term1_5  (k : Int32 → dH → Option (Int32 × dH)) : Nat → Int32 → dH → Option (Int32 × dH)
  | 0, _, _ => none
  | n + 1, v1, h => oP (f_X7_isSign 42 h) (fun r3 => if r3.toInt = 0 then (k v1 h) else (oV (f_X7_next  h) (fun g6 => oI (f_X7_atom1  g6) (fun r7 g8 => l_X7_term1_5  k n (v1 * r7) g8))))
theorem lz_X7_term1_5 {d : Nat} (hd : 29 ≤ d)  (k : Int32 → dH → Option (Int32 × dH)) (hk : ∀ (v1 : Int32) (h : dH), dY shM d mj167 dI (k v1 h) 28 [some (.ref 0), some (.int v1)] [] h) : ∀ (n : Nat) (v1 : Int32) (h : dH), dY shM d mj167 dI (l_X7_term1_5  k n v1 h) 5 [some (.ref 0), some (.int v1)] [] h
  | 0, _, _ => dY_none
  | n + 1, v1, h => by
    rw [l_X7_term1_5]
    refine y_aload_n (q := 6) rfl rfl rfl ?_
    refine y_bipush (x := 42) (q := 8) rfl (by decide) rfl ?_
    refine y_callP (I := .invokevirtual 234) (idx := 234) (KD := 1) (J := 149) (mj := mj139) (as := [.ref 0, .int 42]) (r := []) (q := 11) rfl (fun _ _ _ _ _ _ => rfl) rfl (by decide) rfl rfl rfl rfl rfl (Nat.le_of_ble_eq_true rfl) (d_recv atM0 (by decide) (by decide)) rfl (m_X7_isSign (Nat.le_trans (by decide) hd) 42 h) (fun r3 => ?_)
    refine y_eq0 (q := 28) (q' := 14) rfl rfl rfl rfl (fun c4 => ?_) (fun c5 => ?_)
    · skip
      exact hk v1  h
    · skip
      refine y_aload_n (q := 15) rfl rfl rfl ?_
      refine y_callV (I := .invokevirtual 209) (idx := 209) (KD := 1) (J := 145) (mj := mj135) (as := [.ref 0]) (r := []) (q := 18) rfl (fun _ _ _ _ _ _ => rfl) rfl (by decide) rfl rfl rfl rfl rfl (Nat.le_of_ble_eq_true rfl) (d_recv atM0 (by decide) (by decide)) rfl (m_X7_next (Nat.le_trans (by decide) hd)  h) (fun g6 => ?_)
      refine y_iload_n (q := 19) rfl rfl rfl ?_
      refine y_aload_n (q := 20) rfl rfl rfl ?_
      refine y_callI (I := .invokevirtual 321) (idx := 321) (KD := 1) (J := 176) (mj := mj166) (as := [.ref 0]) (r := [.int v1]) (q := 23) rfl (fun _ _ _ _ _ _ => rfl) rfl (by decide) rfl rfl rfl rfl rfl (Nat.le_of_ble_eq_true rfl) (d_recv atM0 (by decide) (by decide)) rfl (m_X7_atom1 (Nat.le_trans (by decide) hd)  g6) (fun r7 g8 => ?_)
      refine y_imul (q := 24) rfl rfl ?_
      refine y_istore_n (lo' := [some (.ref 0), some (.int (v1 * r7))]) (q := 25) rfl (Nat.le_of_ble_eq_true rfl) rfl rfl ?_
      refine y_goto (q := 5) rfl rfl ?_
      exact lz_X7_term1_5 hd  k hk n (v1 * r7) g8 
def f_X7_term1  (h : dH) : Option (Int32 × dH) := oI (f_X7_atom1  h) (fun r1 g2 => l_X7_term1_5   (fun v1_9 g10 => some (v1_9, g10)) fuel0 r1 g2)
theorem m_X7_term1 {d : Nat} (hd : 30 ≤ d)  (h : dH) : dX shM d 167 [.ref 0] dI (f_X7_term1  h) h := by
  obtain ⟨e, rfl⟩ : ∃ e, d = e + 1 := ⟨d - 1, by omega⟩
  have hd : 29 ≤ e := by omega
  refine dX_of (mj := mj167) (lo := [some (.ref 0), none]) rfl (Nat.le_of_ble_eq_true rfl) rfl ?_
  unfold f_X7_term1
  refine y_aload_n (q := 1) rfl rfl rfl ?_
  refine y_callI (I := .invokevirtual 321) (idx := 321) (KD := 1) (J := 176) (mj := mj166) (as := [.ref 0]) (r := []) (q := 4) rfl (fun _ _ _ _ _ _ => rfl) rfl (by decide) rfl rfl rfl rfl rfl (Nat.le_of_ble_eq_true rfl) (d_recv atM0 (by decide) (by decide)) rfl (m_X7_atom1 (Nat.le_trans (by decide) hd)  h) (fun r1 g2 => ?_)
  refine y_istore_n (lo' := [some (.ref 0), some (.int r1)]) (q := 5) rfl (Nat.le_of_ble_eq_true rfl) rfl rfl ?_
  refine lz_X7_term1_5 hd   _ (fun v1_9 g10 => ?_) fuel0 r1 g2 
  refine y_iload_n (q := 29) rfl rfl rfl ?_
  exact y_retI rfl (by decide) rfl rfl
def l_X7_added1_5  (k : Int32 → dH → Option (Int32 × dH)) : Nat → Int32 → dH → Option (Int32 × dH)
  | 0, _, _ => none
  | n + 1, v1, h => oP (f_X7_isSign 43 h) (fun r3 => if r3.toInt = 0 then (oP (f_X7_isSign 45 h) (fun r6 => if r6.toInt = 0 then (k v1 h) else (if (dlcmp (h 0 25).toInt64 43).toInt = 0 then (oV (f_X7_next  h) (fun g11 => oI (f_X7_term1  g11) (fun r12 g13 => l_X7_added1_5  k n (v1 + r12) g13))) else (oV (f_X7_next  h) (fun g14 => oI (f_X7_term1  g14) (fun r15 g16 => l_X7_added1_5  k n (v1 - r15) g16)))))) else (if (dlcmp (h 0 25).toInt64 43).toInt = 0 then (oV (f_X7_next  h) (fun g19 => oI (f_X7_term1  g19) (fun r20 g21 => l_X7_added1_5  k n (v1 + r20) g21))) else (oV (f_X7_next  h) (fun g22 => oI (f_X7_term1  g22) (fun r23 g24 => l_X7_added1_5  k n (v1 - r23) g24)))))
theorem lz_X7_added1_5 {d : Nat} (hd : 30 ≤ d)  (k : Int32 → dH → Option (Int32 × dH)) (hk : ∀ (v1 : Int32) (z2 : Option Value) (z3 : Option Value) (h : dH), dY shM d mj168 dI (k v1 h) 66 [some (.ref 0), some (.int v1), z2, z3] [] h) : ∀ (n : Nat) (v1 : Int32) (h : dH) (z2 : Option Value) (z3 : Option Value), dY shM d mj168 dI (l_X7_added1_5  k n v1 h) 5 [some (.ref 0), some (.int v1), z2, z3] [] h
  | 0, _, _, _, _ => dY_none
  | n + 1, v1, h, z2, z3 => by
    rw [l_X7_added1_5]
    refine y_aload_n (q := 6) rfl rfl rfl ?_
    refine y_bipush (x := 43) (q := 8) rfl (by decide) rfl ?_
    refine y_callP (I := .invokevirtual 234) (idx := 234) (KD := 1) (J := 149) (mj := mj139) (as := [.ref 0, .int 43]) (r := []) (q := 11) rfl (fun _ _ _ _ _ _ => rfl) rfl (by decide) rfl rfl rfl rfl rfl (Nat.le_of_ble_eq_true rfl) (d_recv atM0 (by decide) (by decide)) rfl (m_X7_isSign (Nat.le_trans (by decide) hd) 43 h) (fun r3 => ?_)
    refine y_ne0 (q := 23) (q' := 14) rfl rfl rfl rfl (fun c4 => ?_) (fun c5 => ?_)
    · skip
      refine y_aload_n (q := 15) rfl rfl rfl ?_
      refine y_bipush (x := 45) (q := 17) rfl (by decide) rfl ?_
      refine y_callP (I := .invokevirtual 234) (idx := 234) (KD := 1) (J := 149) (mj := mj139) (as := [.ref 0, .int 45]) (r := []) (q := 20) rfl (fun _ _ _ _ _ _ => rfl) rfl (by decide) rfl rfl rfl rfl rfl (Nat.le_of_ble_eq_true rfl) (d_recv atM0 (by decide) (by decide)) rfl (m_X7_isSign (Nat.le_trans (by decide) hd) 45 h) (fun r6 => ?_)
      refine y_eq0 (q := 66) (q' := 23) rfl rfl rfl rfl (fun c7 => ?_) (fun c8 => ?_)
      · skip
        exact hk v1 (z2) (z3) h
      · skip
        refine y_aload_n (q := 24) rfl rfl rfl ?_
        refine y_getL (q := 27) rfl rfl (by decide) atM0 rfl rfl ?_
        refine y_ldc2_w (u := 43) (q := 30) rfl rfl rfl ?_
        refine y_lcmp (q := 31) rfl rfl ?_
        refine y_ne0 (q := 38) (q' := 34) rfl rfl rfl rfl (fun c9 => ?_) (fun c10 => ?_)
        · skip
          refine y_iconst (x := 1) (q := 35) rfl (by decide) rfl ?_
          refine y_goto (q := 39) rfl rfl ?_
          refine y_istore_n (lo' := [some (.ref 0), some (.int v1), some (.int 1), z3]) (q := 40) rfl (Nat.le_of_ble_eq_true rfl) rfl rfl ?_
          refine y_aload_n (q := 41) rfl rfl rfl ?_
          refine y_callV (I := .invokevirtual 209) (idx := 209) (KD := 1) (J := 145) (mj := mj135) (as := [.ref 0]) (r := []) (q := 44) rfl (fun _ _ _ _ _ _ => rfl) rfl (by decide) rfl rfl rfl rfl rfl (Nat.le_of_ble_eq_true rfl) (d_recv atM0 (by decide) (by decide)) rfl (m_X7_next (Nat.le_trans (by decide) hd)  h) (fun g11 => ?_)
          refine y_aload_n (q := 45) rfl rfl rfl ?_
          refine y_callI (I := .invokevirtual 324) (idx := 324) (KD := 1) (J := 177) (mj := mj167) (as := [.ref 0]) (r := []) (q := 48) rfl (fun _ _ _ _ _ _ => rfl) rfl (by decide) rfl rfl rfl rfl rfl (Nat.le_of_ble_eq_true rfl) (d_recv atM0 (by decide) (by decide)) rfl (m_X7_term1 (Nat.le_trans (by decide) hd)  g11) (fun r12 g13 => ?_)
          refine y_istore_n (lo' := [some (.ref 0), some (.int v1), some (.int 1), some (.int r12)]) (q := 49) rfl (Nat.le_of_ble_eq_true rfl) rfl rfl ?_
          refine y_iload_n (q := 50) rfl rfl rfl ?_
          refine y_ifF (q := 53) rfl (by decide) rfl rfl ?_
          refine y_iload_n (q := 54) rfl rfl rfl ?_
          refine y_iload_n (q := 55) rfl rfl rfl ?_
          refine y_iadd (q := 56) rfl rfl ?_
          refine y_goto (q := 62) rfl rfl ?_
          refine y_istore_n (lo' := [some (.ref 0), some (.int (v1 + r12)), some (.int 1), some (.int r12)]) (q := 63) rfl (Nat.le_of_ble_eq_true rfl) rfl rfl ?_
          refine y_goto (q := 5) rfl rfl ?_
          exact lz_X7_added1_5 hd  k hk n (v1 + r12) g13 (some (.int 1)) (some (.int r12))
        · skip
          refine y_iconst (x := 0) (q := 39) rfl (by decide) rfl ?_
          refine y_istore_n (lo' := [some (.ref 0), some (.int v1), some (.int 0), z3]) (q := 40) rfl (Nat.le_of_ble_eq_true rfl) rfl rfl ?_
          refine y_aload_n (q := 41) rfl rfl rfl ?_
          refine y_callV (I := .invokevirtual 209) (idx := 209) (KD := 1) (J := 145) (mj := mj135) (as := [.ref 0]) (r := []) (q := 44) rfl (fun _ _ _ _ _ _ => rfl) rfl (by decide) rfl rfl rfl rfl rfl (Nat.le_of_ble_eq_true rfl) (d_recv atM0 (by decide) (by decide)) rfl (m_X7_next (Nat.le_trans (by decide) hd)  h) (fun g14 => ?_)
          refine y_aload_n (q := 45) rfl rfl rfl ?_
          refine y_callI (I := .invokevirtual 324) (idx := 324) (KD := 1) (J := 177) (mj := mj167) (as := [.ref 0]) (r := []) (q := 48) rfl (fun _ _ _ _ _ _ => rfl) rfl (by decide) rfl rfl rfl rfl rfl (Nat.le_of_ble_eq_true rfl) (d_recv atM0 (by decide) (by decide)) rfl (m_X7_term1 (Nat.le_trans (by decide) hd)  g14) (fun r15 g16 => ?_)
          refine y_istore_n (lo' := [some (.ref 0), some (.int v1), some (.int 0), some (.int r15)]) (q := 49) rfl (Nat.le_of_ble_eq_true rfl) rfl rfl ?_
          refine y_iload_n (q := 50) rfl rfl rfl ?_
          refine y_ifT (q := 59) rfl (by decide) rfl ?_
          refine y_iload_n (q := 60) rfl rfl rfl ?_
          refine y_iload_n (q := 61) rfl rfl rfl ?_
          refine y_isub (q := 62) rfl rfl ?_
          refine y_istore_n (lo' := [some (.ref 0), some (.int (v1 - r15)), some (.int 0), some (.int r15)]) (q := 63) rfl (Nat.le_of_ble_eq_true rfl) rfl rfl ?_
          refine y_goto (q := 5) rfl rfl ?_
          exact lz_X7_added1_5 hd  k hk n (v1 - r15) g16 (some (.int 0)) (some (.int r15))
    · skip
      refine y_aload_n (q := 24) rfl rfl rfl ?_
      refine y_getL (q := 27) rfl rfl (by decide) atM0 rfl rfl ?_
      refine y_ldc2_w (u := 43) (q := 30) rfl rfl rfl ?_
      refine y_lcmp (q := 31) rfl rfl ?_
      refine y_ne0 (q := 38) (q' := 34) rfl rfl rfl rfl (fun c17 => ?_) (fun c18 => ?_)
      · skip
        refine y_iconst (x := 1) (q := 35) rfl (by decide) rfl ?_
        refine y_goto (q := 39) rfl rfl ?_
        refine y_istore_n (lo' := [some (.ref 0), some (.int v1), some (.int 1), z3]) (q := 40) rfl (Nat.le_of_ble_eq_true rfl) rfl rfl ?_
        refine y_aload_n (q := 41) rfl rfl rfl ?_
        refine y_callV (I := .invokevirtual 209) (idx := 209) (KD := 1) (J := 145) (mj := mj135) (as := [.ref 0]) (r := []) (q := 44) rfl (fun _ _ _ _ _ _ => rfl) rfl (by decide) rfl rfl rfl rfl rfl (Nat.le_of_ble_eq_true rfl) (d_recv atM0 (by decide) (by decide)) rfl (m_X7_next (Nat.le_trans (by decide) hd)  h) (fun g19 => ?_)
        refine y_aload_n (q := 45) rfl rfl rfl ?_
        refine y_callI (I := .invokevirtual 324) (idx := 324) (KD := 1) (J := 177) (mj := mj167) (as := [.ref 0]) (r := []) (q := 48) rfl (fun _ _ _ _ _ _ => rfl) rfl (by decide) rfl rfl rfl rfl rfl (Nat.le_of_ble_eq_true rfl) (d_recv atM0 (by decide) (by decide)) rfl (m_X7_term1 (Nat.le_trans (by decide) hd)  g19) (fun r20 g21 => ?_)
        refine y_istore_n (lo' := [some (.ref 0), some (.int v1), some (.int 1), some (.int r20)]) (q := 49) rfl (Nat.le_of_ble_eq_true rfl) rfl rfl ?_
        refine y_iload_n (q := 50) rfl rfl rfl ?_
        refine y_ifF (q := 53) rfl (by decide) rfl rfl ?_
        refine y_iload_n (q := 54) rfl rfl rfl ?_
        refine y_iload_n (q := 55) rfl rfl rfl ?_
        refine y_iadd (q := 56) rfl rfl ?_
        refine y_goto (q := 62) rfl rfl ?_
        refine y_istore_n (lo' := [some (.ref 0), some (.int (v1 + r20)), some (.int 1), some (.int r20)]) (q := 63) rfl (Nat.le_of_ble_eq_true rfl) rfl rfl ?_
        refine y_goto (q := 5) rfl rfl ?_
        exact lz_X7_added1_5 hd  k hk n (v1 + r20) g21 (some (.int 1)) (some (.int r20))
      · skip
        refine y_iconst (x := 0) (q := 39) rfl (by decide) rfl ?_
        refine y_istore_n (lo' := [some (.ref 0), some (.int v1), some (.int 0), z3]) (q := 40) rfl (Nat.le_of_ble_eq_true rfl) rfl rfl ?_
        refine y_aload_n (q := 41) rfl rfl rfl ?_
        refine y_callV (I := .invokevirtual 209) (idx := 209) (KD := 1) (J := 145) (mj := mj135) (as := [.ref 0]) (r := []) (q := 44) rfl (fun _ _ _ _ _ _ => rfl) rfl (by decide) rfl rfl rfl rfl rfl (Nat.le_of_ble_eq_true rfl) (d_recv atM0 (by decide) (by decide)) rfl (m_X7_next (Nat.le_trans (by decide) hd)  h) (fun g22 => ?_)
        refine y_aload_n (q := 45) rfl rfl rfl ?_
        refine y_callI (I := .invokevirtual 324) (idx := 324) (KD := 1) (J := 177) (mj := mj167) (as := [.ref 0]) (r := []) (q := 48) rfl (fun _ _ _ _ _ _ => rfl) rfl (by decide) rfl rfl rfl rfl rfl (Nat.le_of_ble_eq_true rfl) (d_recv atM0 (by decide) (by decide)) rfl (m_X7_term1 (Nat.le_trans (by decide) hd)  g22) (fun r23 g24 => ?_)
        refine y_istore_n (lo' := [some (.ref 0), some (.int v1), some (.int 0), some (.int r23)]) (q := 49) rfl (Nat.le_of_ble_eq_true rfl) rfl rfl ?_
        refine y_iload_n (q := 50) rfl rfl rfl ?_
        refine y_ifT (q := 59) rfl (by decide) rfl ?_
        refine y_iload_n (q := 60) rfl rfl rfl ?_
        refine y_iload_n (q := 61) rfl rfl rfl ?_
        refine y_isub (q := 62) rfl rfl ?_
        refine y_istore_n (lo' := [some (.ref 0), some (.int (v1 - r23)), some (.int 0), some (.int r23)]) (q := 63) rfl (Nat.le_of_ble_eq_true rfl) rfl rfl ?_
        refine y_goto (q := 5) rfl rfl ?_
        exact lz_X7_added1_5 hd  k hk n (v1 - r23) g24 (some (.int 0)) (some (.int r23))
def f_X7_added1  (h : dH) : Option (Int32 × dH) := oI (f_X7_term1  h) (fun r1 g2 => l_X7_added1_5   (fun v1_25 g28 => some (v1_25, g28)) fuel0 r1 g2)
theorem m_X7_added1 {d : Nat} (hd : 31 ≤ d)  (h : dH) : dX shM d 168 [.ref 0] dI (f_X7_added1  h) h := by
  obtain ⟨e, rfl⟩ : ∃ e, d = e + 1 := ⟨d - 1, by omega⟩
  have hd : 30 ≤ e := by omega
  refine dX_of (mj := mj168) (lo := [some (.ref 0), none, none, none]) rfl (Nat.le_of_ble_eq_true rfl) rfl ?_
  unfold f_X7_added1
  refine y_aload_n (q := 1) rfl rfl rfl ?_
  refine y_callI (I := .invokevirtual 324) (idx := 324) (KD := 1) (J := 177) (mj := mj167) (as := [.ref 0]) (r := []) (q := 4) rfl (fun _ _ _ _ _ _ => rfl) rfl (by decide) rfl rfl rfl rfl rfl (Nat.le_of_ble_eq_true rfl) (d_recv atM0 (by decide) (by decide)) rfl (m_X7_term1 (Nat.le_trans (by decide) hd)  h) (fun r1 g2 => ?_)
  refine y_istore_n (lo' := [some (.ref 0), some (.int r1), none, none]) (q := 5) rfl (Nat.le_of_ble_eq_true rfl) rfl rfl ?_
  refine lz_X7_added1_5 hd   _ (fun v1_25 z26 z27 g28 => ?_) fuel0 r1 g2 (none) (none)
  refine y_iload_n (q := 67) rfl rfl rfl ?_
  exact y_retI rfl (by decide) rfl rfl
def f_X7_not1  (h : dH) : Option (Int32 × dH) := oP (f_X7_isWord 110 111 116 0 0 0 0 0 h) (fun r1 => if r1.toInt = 0 then (oI (f_X7_added1  h) (fun r4 g5 => oP (f_X7_isSign 60 g5) (fun r6 => if r6.toInt = 0 then (oP (f_X7_isSign 61 g5) (fun r9 => if r9.toInt = 0 then (some (r4, g5)) else (if (dlcmp (g5 0 25).toInt64 60).toInt = 0 then (oV (f_X7_next  g5) (fun g14 => oI (f_X7_added1  g14) (fun r15 g16 => if r4.toInt < r15.toInt then (some (1, g16)) else (some (0, g16))))) else (oV (f_X7_next  g5) (fun g19 => oI (f_X7_added1  g19) (fun r20 g21 => if r4.toInt = r20.toInt then (some (1, g21)) else (some (0, g21)))))))) else (if (dlcmp (g5 0 25).toInt64 60).toInt = 0 then (oV (f_X7_next  g5) (fun g26 => oI (f_X7_added1  g26) (fun r27 g28 => if r4.toInt < r27.toInt then (some (1, g28)) else (some (0, g28))))) else (oV (f_X7_next  g5) (fun g31 => oI (f_X7_added1  g31) (fun r32 g33 => if r4.toInt = r32.toInt then (some (1, g33)) else (some (0, g33))))))))) else (oI (f_X7_opens  h) (fun r36 g37 => if r36.toInt = 0 then (some (0, g37)) else (oI (f_X7_not2  g37) (fun r40 g41 => oH (dU g41 0 26 ((g41 0 26) - 1)) (fun g42 => if r40.toInt = 0 then (some (1, g42)) else (some (0, g42))))))))
theorem m_X7_not1 {d : Nat} (hd : 32 ≤ d)  (h : dH) : dX shM d 169 [.ref 0] dI (f_X7_not1  h) h := by
  obtain ⟨e, rfl⟩ : ∃ e, d = e + 1 := ⟨d - 1, by omega⟩
  have hd : 31 ≤ e := by omega
  refine dX_of (mj := mj169) (lo := [some (.ref 0), none, none, none]) rfl (Nat.le_of_ble_eq_true rfl) rfl ?_
  unfold f_X7_not1
  refine y_aload_n (q := 1) rfl rfl rfl ?_
  refine y_bipush (x := 110) (q := 3) rfl (by decide) rfl ?_
  refine y_bipush (x := 111) (q := 5) rfl (by decide) rfl ?_
  refine y_bipush (x := 116) (q := 7) rfl (by decide) rfl ?_
  refine y_iconst (x := 0) (q := 8) rfl (by decide) rfl ?_
  refine y_iconst (x := 0) (q := 9) rfl (by decide) rfl ?_
  refine y_iconst (x := 0) (q := 10) rfl (by decide) rfl ?_
  refine y_iconst (x := 0) (q := 11) rfl (by decide) rfl ?_
  refine y_iconst (x := 0) (q := 12) rfl (by decide) rfl ?_
  refine y_callP (I := .invokevirtual 212) (idx := 212) (KD := 1) (J := 148) (mj := mj138) (as := [.ref 0, .int 110, .int 111, .int 116, .int 0, .int 0, .int 0, .int 0, .int 0]) (r := []) (q := 15) rfl (fun _ _ _ _ _ _ => rfl) rfl (by decide) rfl rfl rfl rfl rfl (Nat.le_of_ble_eq_true rfl) (d_recv atM0 (by decide) (by decide)) rfl (m_X7_isWord (Nat.le_trans (by decide) hd) 110 111 116 0 0 0 0 0 h) (fun r1 => ?_)
  refine y_eq0 (q := 52) (q' := 18) rfl rfl rfl rfl (fun c2 => ?_) (fun c3 => ?_)
  · skip
    refine y_aload_n (q := 53) rfl rfl rfl ?_
    refine y_callI (I := .invokevirtual 327) (idx := 327) (KD := 1) (J := 178) (mj := mj168) (as := [.ref 0]) (r := []) (q := 56) rfl (fun _ _ _ _ _ _ => rfl) rfl (by decide) rfl rfl rfl rfl rfl (Nat.le_of_ble_eq_true rfl) (d_recv atM0 (by decide) (by decide)) rfl (m_X7_added1 (Nat.le_trans (by decide) hd)  h) (fun r4 g5 => ?_)
    refine y_istore_n (lo' := [some (.ref 0), some (.int r4), none, none]) (q := 57) rfl (Nat.le_of_ble_eq_true rfl) rfl rfl ?_
    refine y_aload_n (q := 58) rfl rfl rfl ?_
    refine y_bipush (x := 60) (q := 60) rfl (by decide) rfl ?_
    refine y_callP (I := .invokevirtual 234) (idx := 234) (KD := 1) (J := 149) (mj := mj139) (as := [.ref 0, .int 60]) (r := []) (q := 63) rfl (fun _ _ _ _ _ _ => rfl) rfl (by decide) rfl rfl rfl rfl rfl (Nat.le_of_ble_eq_true rfl) (d_recv atM0 (by decide) (by decide)) rfl (m_X7_isSign (Nat.le_trans (by decide) hd) 60 g5) (fun r6 => ?_)
    refine y_ne0 (q := 77) (q' := 66) rfl rfl rfl rfl (fun c7 => ?_) (fun c8 => ?_)
    · skip
      refine y_aload_n (q := 67) rfl rfl rfl ?_
      refine y_bipush (x := 61) (q := 69) rfl (by decide) rfl ?_
      refine y_callP (I := .invokevirtual 234) (idx := 234) (KD := 1) (J := 149) (mj := mj139) (as := [.ref 0, .int 61]) (r := []) (q := 72) rfl (fun _ _ _ _ _ _ => rfl) rfl (by decide) rfl rfl rfl rfl rfl (Nat.le_of_ble_eq_true rfl) (d_recv atM0 (by decide) (by decide)) rfl (m_X7_isSign (Nat.le_trans (by decide) hd) 61 g5) (fun r9 => ?_)
      refine y_ne0 (q := 77) (q' := 75) rfl rfl rfl rfl (fun c10 => ?_) (fun c11 => ?_)
      · skip
        refine y_iload_n (q := 76) rfl rfl rfl ?_
        exact y_retI rfl (by decide) rfl rfl
      · skip
        refine y_aload_n (q := 78) rfl rfl rfl ?_
        refine y_getL (q := 81) rfl rfl (by decide) atM0 rfl rfl ?_
        refine y_ldc2_w (u := 60) (q := 84) rfl rfl rfl ?_
        refine y_lcmp (q := 85) rfl rfl ?_
        refine y_ne0 (q := 92) (q' := 88) rfl rfl rfl rfl (fun c12 => ?_) (fun c13 => ?_)
        · skip
          refine y_iconst (x := 1) (q := 89) rfl (by decide) rfl ?_
          refine y_goto (q := 93) rfl rfl ?_
          refine y_istore_n (lo' := [some (.ref 0), some (.int r4), some (.int 1), none]) (q := 94) rfl (Nat.le_of_ble_eq_true rfl) rfl rfl ?_
          refine y_aload_n (q := 95) rfl rfl rfl ?_
          refine y_callV (I := .invokevirtual 209) (idx := 209) (KD := 1) (J := 145) (mj := mj135) (as := [.ref 0]) (r := []) (q := 98) rfl (fun _ _ _ _ _ _ => rfl) rfl (by decide) rfl rfl rfl rfl rfl (Nat.le_of_ble_eq_true rfl) (d_recv atM0 (by decide) (by decide)) rfl (m_X7_next (Nat.le_trans (by decide) hd)  g5) (fun g14 => ?_)
          refine y_aload_n (q := 99) rfl rfl rfl ?_
          refine y_callI (I := .invokevirtual 327) (idx := 327) (KD := 1) (J := 178) (mj := mj168) (as := [.ref 0]) (r := []) (q := 102) rfl (fun _ _ _ _ _ _ => rfl) rfl (by decide) rfl rfl rfl rfl rfl (Nat.le_of_ble_eq_true rfl) (d_recv atM0 (by decide) (by decide)) rfl (m_X7_added1 (Nat.le_trans (by decide) hd)  g14) (fun r15 g16 => ?_)
          refine y_istore_n (lo' := [some (.ref 0), some (.int r4), some (.int 1), some (.int r15)]) (q := 103) rfl (Nat.le_of_ble_eq_true rfl) rfl rfl ?_
          refine y_iload_n (q := 104) rfl rfl rfl ?_
          refine y_ifF (q := 107) rfl (by decide) rfl rfl ?_
          refine y_iload_n (q := 108) rfl rfl rfl ?_
          refine y_iload_n (q := 109) rfl rfl rfl ?_
          refine y_ge (q := 124) (q' := 112) rfl rfl rfl rfl rfl (fun c17 => ?_) (fun c18 => ?_)
          · skip
            refine y_goto (q := 120) rfl rfl ?_
            refine y_iconst (x := 1) (q := 121) rfl (by decide) rfl ?_
            refine y_goto (q := 125) rfl rfl ?_
            exact y_retI rfl (by decide) rfl rfl
          · skip
            refine y_iconst (x := 0) (q := 125) rfl (by decide) rfl ?_
            exact y_retI rfl (by decide) rfl rfl
        · skip
          refine y_iconst (x := 0) (q := 93) rfl (by decide) rfl ?_
          refine y_istore_n (lo' := [some (.ref 0), some (.int r4), some (.int 0), none]) (q := 94) rfl (Nat.le_of_ble_eq_true rfl) rfl rfl ?_
          refine y_aload_n (q := 95) rfl rfl rfl ?_
          refine y_callV (I := .invokevirtual 209) (idx := 209) (KD := 1) (J := 145) (mj := mj135) (as := [.ref 0]) (r := []) (q := 98) rfl (fun _ _ _ _ _ _ => rfl) rfl (by decide) rfl rfl rfl rfl rfl (Nat.le_of_ble_eq_true rfl) (d_recv atM0 (by decide) (by decide)) rfl (m_X7_next (Nat.le_trans (by decide) hd)  g5) (fun g19 => ?_)
          refine y_aload_n (q := 99) rfl rfl rfl ?_
          refine y_callI (I := .invokevirtual 327) (idx := 327) (KD := 1) (J := 178) (mj := mj168) (as := [.ref 0]) (r := []) (q := 102) rfl (fun _ _ _ _ _ _ => rfl) rfl (by decide) rfl rfl rfl rfl rfl (Nat.le_of_ble_eq_true rfl) (d_recv atM0 (by decide) (by decide)) rfl (m_X7_added1 (Nat.le_trans (by decide) hd)  g19) (fun r20 g21 => ?_)
          refine y_istore_n (lo' := [some (.ref 0), some (.int r4), some (.int 0), some (.int r20)]) (q := 103) rfl (Nat.le_of_ble_eq_true rfl) rfl rfl ?_
          refine y_iload_n (q := 104) rfl rfl rfl ?_
          refine y_ifT (q := 115) rfl (by decide) rfl ?_
          refine y_iload_n (q := 116) rfl rfl rfl ?_
          refine y_iload_n (q := 117) rfl rfl rfl ?_
          refine y_ne (q := 124) (q' := 120) rfl rfl rfl rfl rfl (fun c22 => ?_) (fun c23 => ?_)
          · skip
            refine y_iconst (x := 1) (q := 121) rfl (by decide) rfl ?_
            refine y_goto (q := 125) rfl rfl ?_
            exact y_retI rfl (by decide) rfl rfl
          · skip
            refine y_iconst (x := 0) (q := 125) rfl (by decide) rfl ?_
            exact y_retI rfl (by decide) rfl rfl
    · skip
      refine y_aload_n (q := 78) rfl rfl rfl ?_
      refine y_getL (q := 81) rfl rfl (by decide) atM0 rfl rfl ?_
      refine y_ldc2_w (u := 60) (q := 84) rfl rfl rfl ?_
      refine y_lcmp (q := 85) rfl rfl ?_
      refine y_ne0 (q := 92) (q' := 88) rfl rfl rfl rfl (fun c24 => ?_) (fun c25 => ?_)
      · skip
        refine y_iconst (x := 1) (q := 89) rfl (by decide) rfl ?_
        refine y_goto (q := 93) rfl rfl ?_
        refine y_istore_n (lo' := [some (.ref 0), some (.int r4), some (.int 1), none]) (q := 94) rfl (Nat.le_of_ble_eq_true rfl) rfl rfl ?_
        refine y_aload_n (q := 95) rfl rfl rfl ?_
        refine y_callV (I := .invokevirtual 209) (idx := 209) (KD := 1) (J := 145) (mj := mj135) (as := [.ref 0]) (r := []) (q := 98) rfl (fun _ _ _ _ _ _ => rfl) rfl (by decide) rfl rfl rfl rfl rfl (Nat.le_of_ble_eq_true rfl) (d_recv atM0 (by decide) (by decide)) rfl (m_X7_next (Nat.le_trans (by decide) hd)  g5) (fun g26 => ?_)
        refine y_aload_n (q := 99) rfl rfl rfl ?_
        refine y_callI (I := .invokevirtual 327) (idx := 327) (KD := 1) (J := 178) (mj := mj168) (as := [.ref 0]) (r := []) (q := 102) rfl (fun _ _ _ _ _ _ => rfl) rfl (by decide) rfl rfl rfl rfl rfl (Nat.le_of_ble_eq_true rfl) (d_recv atM0 (by decide) (by decide)) rfl (m_X7_added1 (Nat.le_trans (by decide) hd)  g26) (fun r27 g28 => ?_)
        refine y_istore_n (lo' := [some (.ref 0), some (.int r4), some (.int 1), some (.int r27)]) (q := 103) rfl (Nat.le_of_ble_eq_true rfl) rfl rfl ?_
        refine y_iload_n (q := 104) rfl rfl rfl ?_
        refine y_ifF (q := 107) rfl (by decide) rfl rfl ?_
        refine y_iload_n (q := 108) rfl rfl rfl ?_
        refine y_iload_n (q := 109) rfl rfl rfl ?_
        refine y_ge (q := 124) (q' := 112) rfl rfl rfl rfl rfl (fun c29 => ?_) (fun c30 => ?_)
        · skip
          refine y_goto (q := 120) rfl rfl ?_
          refine y_iconst (x := 1) (q := 121) rfl (by decide) rfl ?_
          refine y_goto (q := 125) rfl rfl ?_
          exact y_retI rfl (by decide) rfl rfl
        · skip
          refine y_iconst (x := 0) (q := 125) rfl (by decide) rfl ?_
          exact y_retI rfl (by decide) rfl rfl
      · skip
        refine y_iconst (x := 0) (q := 93) rfl (by decide) rfl ?_
        refine y_istore_n (lo' := [some (.ref 0), some (.int r4), some (.int 0), none]) (q := 94) rfl (Nat.le_of_ble_eq_true rfl) rfl rfl ?_
        refine y_aload_n (q := 95) rfl rfl rfl ?_
        refine y_callV (I := .invokevirtual 209) (idx := 209) (KD := 1) (J := 145) (mj := mj135) (as := [.ref 0]) (r := []) (q := 98) rfl (fun _ _ _ _ _ _ => rfl) rfl (by decide) rfl rfl rfl rfl rfl (Nat.le_of_ble_eq_true rfl) (d_recv atM0 (by decide) (by decide)) rfl (m_X7_next (Nat.le_trans (by decide) hd)  g5) (fun g31 => ?_)
        refine y_aload_n (q := 99) rfl rfl rfl ?_
        refine y_callI (I := .invokevirtual 327) (idx := 327) (KD := 1) (J := 178) (mj := mj168) (as := [.ref 0]) (r := []) (q := 102) rfl (fun _ _ _ _ _ _ => rfl) rfl (by decide) rfl rfl rfl rfl rfl (Nat.le_of_ble_eq_true rfl) (d_recv atM0 (by decide) (by decide)) rfl (m_X7_added1 (Nat.le_trans (by decide) hd)  g31) (fun r32 g33 => ?_)
        refine y_istore_n (lo' := [some (.ref 0), some (.int r4), some (.int 0), some (.int r32)]) (q := 103) rfl (Nat.le_of_ble_eq_true rfl) rfl rfl ?_
        refine y_iload_n (q := 104) rfl rfl rfl ?_
        refine y_ifT (q := 115) rfl (by decide) rfl ?_
        refine y_iload_n (q := 116) rfl rfl rfl ?_
        refine y_iload_n (q := 117) rfl rfl rfl ?_
        refine y_ne (q := 124) (q' := 120) rfl rfl rfl rfl rfl (fun c34 => ?_) (fun c35 => ?_)
        · skip
          refine y_iconst (x := 1) (q := 121) rfl (by decide) rfl ?_
          refine y_goto (q := 125) rfl rfl ?_
          exact y_retI rfl (by decide) rfl rfl
        · skip
          refine y_iconst (x := 0) (q := 125) rfl (by decide) rfl ?_
          exact y_retI rfl (by decide) rfl rfl
  · skip
    refine y_aload_n (q := 19) rfl rfl rfl ?_
    refine y_callI (I := .invokevirtual 237) (idx := 237) (KD := 1) (J := 150) (mj := mj140) (as := [.ref 0]) (r := []) (q := 22) rfl (fun _ _ _ _ _ _ => rfl) rfl (by decide) rfl rfl rfl rfl rfl (Nat.le_of_ble_eq_true rfl) (d_recv atM0 (by decide) (by decide)) rfl (m_X7_opens (Nat.le_trans (by decide) hd)  h) (fun r36 g37 => ?_)
    refine y_ne0 (q := 27) (q' := 25) rfl rfl rfl rfl (fun c38 => ?_) (fun c39 => ?_)
    · skip
      refine y_iconst (x := 0) (q := 26) rfl (by decide) rfl ?_
      exact y_retI rfl (by decide) rfl rfl
    · skip
      refine y_aload_n (q := 28) rfl rfl rfl ?_
      refine y_callI (I := .invokevirtual 312) (idx := 312) (KD := 1) (J := 173) (mj := mj163) (as := [.ref 0]) (r := []) (q := 31) rfl (fun _ _ _ _ _ _ => rfl) rfl (by decide) rfl rfl rfl rfl rfl (Nat.le_of_ble_eq_true rfl) (d_recv atM0 (by decide) (by decide)) rfl (m_X7_not2 (Nat.le_trans (by decide) hd)  g37) (fun r40 g41 => ?_)
      refine y_istore_n (lo' := [some (.ref 0), some (.int r40), none, none]) (q := 32) rfl (Nat.le_of_ble_eq_true rfl) rfl rfl ?_
      refine y_aload_n (q := 33) rfl rfl rfl ?_
      refine y_dup (q := 34) rfl rfl ?_
      refine y_getI (q := 37) rfl rfl (by decide) atM0 rfl rfl ?_
      refine y_iconst (x := 1) (q := 38) rfl (by decide) rfl ?_
      refine y_isub (q := 39) rfl rfl ?_
      refine y_putI (q := 42) rfl rfl (by decide) atM0 rfl rfl rfl rfl (fun g42 => ?_)
      refine y_iload_n (q := 43) rfl rfl rfl ?_
      refine y_ne0 (q := 50) (q' := 46) rfl rfl rfl rfl (fun c43 => ?_) (fun c44 => ?_)
      · skip
        refine y_iconst (x := 1) (q := 47) rfl (by decide) rfl ?_
        refine y_goto (q := 51) rfl rfl ?_
        exact y_retI rfl (by decide) rfl rfl
      · skip
        refine y_iconst (x := 0) (q := 51) rfl (by decide) rfl ?_
        exact y_retI rfl (by decide) rfl rfl
def l_X7_both1_5  (k : Int32 → dH → Option (Int32 × dH)) : Nat → Int32 → dH → Option (Int32 × dH)
  | 0, _, _ => none
  | n + 1, v1, h => oP (f_X7_isWord 97 110 100 0 0 0 0 0 h) (fun r3 => if r3.toInt = 0 then (k v1 h) else (oV (f_X7_next  h) (fun g6 => oI (f_X7_not1  g6) (fun r7 g8 => if v1.toInt = 0 then (l_X7_both1_5  k n 0 g8) else (if r7.toInt = 0 then (l_X7_both1_5  k n 0 g8) else (l_X7_both1_5  k n 1 g8))))))
theorem lz_X7_both1_5 {d : Nat} (hd : 32 ≤ d)  (k : Int32 → dH → Option (Int32 × dH)) (hk : ∀ (v1 : Int32) (z2 : Option Value) (h : dH), dY shM d mj170 dI (k v1 h) 49 [some (.ref 0), some (.int v1), z2] [] h) : ∀ (n : Nat) (v1 : Int32) (h : dH) (z2 : Option Value), dY shM d mj170 dI (l_X7_both1_5  k n v1 h) 5 [some (.ref 0), some (.int v1), z2] [] h
  | 0, _, _, _ => dY_none
  | n + 1, v1, h, z2 => by
    rw [l_X7_both1_5]
    refine y_aload_n (q := 6) rfl rfl rfl ?_
    refine y_bipush (x := 97) (q := 8) rfl (by decide) rfl ?_
    refine y_bipush (x := 110) (q := 10) rfl (by decide) rfl ?_
    refine y_bipush (x := 100) (q := 12) rfl (by decide) rfl ?_
    refine y_iconst (x := 0) (q := 13) rfl (by decide) rfl ?_
    refine y_iconst (x := 0) (q := 14) rfl (by decide) rfl ?_
    refine y_iconst (x := 0) (q := 15) rfl (by decide) rfl ?_
    refine y_iconst (x := 0) (q := 16) rfl (by decide) rfl ?_
    refine y_iconst (x := 0) (q := 17) rfl (by decide) rfl ?_
    refine y_callP (I := .invokevirtual 212) (idx := 212) (KD := 1) (J := 148) (mj := mj138) (as := [.ref 0, .int 97, .int 110, .int 100, .int 0, .int 0, .int 0, .int 0, .int 0]) (r := []) (q := 20) rfl (fun _ _ _ _ _ _ => rfl) rfl (by decide) rfl rfl rfl rfl rfl (Nat.le_of_ble_eq_true rfl) (d_recv atM0 (by decide) (by decide)) rfl (m_X7_isWord (Nat.le_trans (by decide) hd) 97 110 100 0 0 0 0 0 h) (fun r3 => ?_)
    refine y_eq0 (q := 49) (q' := 23) rfl rfl rfl rfl (fun c4 => ?_) (fun c5 => ?_)
    · skip
      exact hk v1 (z2) h
    · skip
      refine y_aload_n (q := 24) rfl rfl rfl ?_
      refine y_callV (I := .invokevirtual 209) (idx := 209) (KD := 1) (J := 145) (mj := mj135) (as := [.ref 0]) (r := []) (q := 27) rfl (fun _ _ _ _ _ _ => rfl) rfl (by decide) rfl rfl rfl rfl rfl (Nat.le_of_ble_eq_true rfl) (d_recv atM0 (by decide) (by decide)) rfl (m_X7_next (Nat.le_trans (by decide) hd)  h) (fun g6 => ?_)
      refine y_aload_n (q := 28) rfl rfl rfl ?_
      refine y_callI (I := .invokevirtual 330) (idx := 330) (KD := 1) (J := 179) (mj := mj169) (as := [.ref 0]) (r := []) (q := 31) rfl (fun _ _ _ _ _ _ => rfl) rfl (by decide) rfl rfl rfl rfl rfl (Nat.le_of_ble_eq_true rfl) (d_recv atM0 (by decide) (by decide)) rfl (m_X7_not1 (Nat.le_trans (by decide) hd)  g6) (fun r7 g8 => ?_)
      refine y_istore_n (lo' := [some (.ref 0), some (.int v1), some (.int r7)]) (q := 32) rfl (Nat.le_of_ble_eq_true rfl) rfl rfl ?_
      refine y_iload_n (q := 33) rfl rfl rfl ?_
      refine y_eq0 (q := 44) (q' := 36) rfl rfl rfl rfl (fun c9 => ?_) (fun c10 => ?_)
      · skip
        refine y_iconst (x := 0) (q := 45) rfl (by decide) rfl ?_
        refine y_istore_n (lo' := [some (.ref 0), some (.int 0), some (.int r7)]) (q := 46) rfl (Nat.le_of_ble_eq_true rfl) rfl rfl ?_
        refine y_goto (q := 5) rfl rfl ?_
        exact lz_X7_both1_5 hd  k hk n 0 g8 (some (.int r7))
      · skip
        refine y_iload_n (q := 37) rfl rfl rfl ?_
        refine y_eq0 (q := 44) (q' := 40) rfl rfl rfl rfl (fun c11 => ?_) (fun c12 => ?_)
        · skip
          refine y_iconst (x := 0) (q := 45) rfl (by decide) rfl ?_
          refine y_istore_n (lo' := [some (.ref 0), some (.int 0), some (.int r7)]) (q := 46) rfl (Nat.le_of_ble_eq_true rfl) rfl rfl ?_
          refine y_goto (q := 5) rfl rfl ?_
          exact lz_X7_both1_5 hd  k hk n 0 g8 (some (.int r7))
        · skip
          refine y_iconst (x := 1) (q := 41) rfl (by decide) rfl ?_
          refine y_goto (q := 45) rfl rfl ?_
          refine y_istore_n (lo' := [some (.ref 0), some (.int 1), some (.int r7)]) (q := 46) rfl (Nat.le_of_ble_eq_true rfl) rfl rfl ?_
          refine y_goto (q := 5) rfl rfl ?_
          exact lz_X7_both1_5 hd  k hk n 1 g8 (some (.int r7))
def f_X7_both1  (h : dH) : Option (Int32 × dH) := oI (f_X7_not1  h) (fun r1 g2 => l_X7_both1_5   (fun v1_13 g15 => some (v1_13, g15)) fuel0 r1 g2)
theorem m_X7_both1 {d : Nat} (hd : 33 ≤ d)  (h : dH) : dX shM d 170 [.ref 0] dI (f_X7_both1  h) h := by
  obtain ⟨e, rfl⟩ : ∃ e, d = e + 1 := ⟨d - 1, by omega⟩
  have hd : 32 ≤ e := by omega
  refine dX_of (mj := mj170) (lo := [some (.ref 0), none, none]) rfl (Nat.le_of_ble_eq_true rfl) rfl ?_
  unfold f_X7_both1
  refine y_aload_n (q := 1) rfl rfl rfl ?_
  refine y_callI (I := .invokevirtual 330) (idx := 330) (KD := 1) (J := 179) (mj := mj169) (as := [.ref 0]) (r := []) (q := 4) rfl (fun _ _ _ _ _ _ => rfl) rfl (by decide) rfl rfl rfl rfl rfl (Nat.le_of_ble_eq_true rfl) (d_recv atM0 (by decide) (by decide)) rfl (m_X7_not1 (Nat.le_trans (by decide) hd)  h) (fun r1 g2 => ?_)
  refine y_istore_n (lo' := [some (.ref 0), some (.int r1), none]) (q := 5) rfl (Nat.le_of_ble_eq_true rfl) rfl rfl ?_
  refine lz_X7_both1_5 hd   _ (fun v1_13 z14 g15 => ?_) fuel0 r1 g2 (none)
  refine y_iload_n (q := 50) rfl rfl rfl ?_
  exact y_retI rfl (by decide) rfl rfl
def l_X7_either1_5  (k : Int32 → dH → Option (Int32 × dH)) : Nat → Int32 → dH → Option (Int32 × dH)
  | 0, _, _ => none
  | n + 1, v1, h => oP (f_X7_isWord 111 114 0 0 0 0 0 0 h) (fun r3 => if r3.toInt = 0 then (k v1 h) else (oV (f_X7_next  h) (fun g6 => oI (f_X7_both1  g6) (fun r7 g8 => if v1.toInt = 0 then (if r7.toInt = 0 then (l_X7_either1_5  k n 0 g8) else (l_X7_either1_5  k n 1 g8)) else (l_X7_either1_5  k n 1 g8)))))
theorem lz_X7_either1_5 {d : Nat} (hd : 33 ≤ d)  (k : Int32 → dH → Option (Int32 × dH)) (hk : ∀ (v1 : Int32) (z2 : Option Value) (h : dH), dY shM d mj171 dI (k v1 h) 48 [some (.ref 0), some (.int v1), z2] [] h) : ∀ (n : Nat) (v1 : Int32) (h : dH) (z2 : Option Value), dY shM d mj171 dI (l_X7_either1_5  k n v1 h) 5 [some (.ref 0), some (.int v1), z2] [] h
  | 0, _, _, _ => dY_none
  | n + 1, v1, h, z2 => by
    rw [l_X7_either1_5]
    refine y_aload_n (q := 6) rfl rfl rfl ?_
    refine y_bipush (x := 111) (q := 8) rfl (by decide) rfl ?_
    refine y_bipush (x := 114) (q := 10) rfl (by decide) rfl ?_
    refine y_iconst (x := 0) (q := 11) rfl (by decide) rfl ?_
    refine y_iconst (x := 0) (q := 12) rfl (by decide) rfl ?_
    refine y_iconst (x := 0) (q := 13) rfl (by decide) rfl ?_
    refine y_iconst (x := 0) (q := 14) rfl (by decide) rfl ?_
    refine y_iconst (x := 0) (q := 15) rfl (by decide) rfl ?_
    refine y_iconst (x := 0) (q := 16) rfl (by decide) rfl ?_
    refine y_callP (I := .invokevirtual 212) (idx := 212) (KD := 1) (J := 148) (mj := mj138) (as := [.ref 0, .int 111, .int 114, .int 0, .int 0, .int 0, .int 0, .int 0, .int 0]) (r := []) (q := 19) rfl (fun _ _ _ _ _ _ => rfl) rfl (by decide) rfl rfl rfl rfl rfl (Nat.le_of_ble_eq_true rfl) (d_recv atM0 (by decide) (by decide)) rfl (m_X7_isWord (Nat.le_trans (by decide) hd) 111 114 0 0 0 0 0 0 h) (fun r3 => ?_)
    refine y_eq0 (q := 48) (q' := 22) rfl rfl rfl rfl (fun c4 => ?_) (fun c5 => ?_)
    · skip
      exact hk v1 (z2) h
    · skip
      refine y_aload_n (q := 23) rfl rfl rfl ?_
      refine y_callV (I := .invokevirtual 209) (idx := 209) (KD := 1) (J := 145) (mj := mj135) (as := [.ref 0]) (r := []) (q := 26) rfl (fun _ _ _ _ _ _ => rfl) rfl (by decide) rfl rfl rfl rfl rfl (Nat.le_of_ble_eq_true rfl) (d_recv atM0 (by decide) (by decide)) rfl (m_X7_next (Nat.le_trans (by decide) hd)  h) (fun g6 => ?_)
      refine y_aload_n (q := 27) rfl rfl rfl ?_
      refine y_callI (I := .invokevirtual 333) (idx := 333) (KD := 1) (J := 180) (mj := mj170) (as := [.ref 0]) (r := []) (q := 30) rfl (fun _ _ _ _ _ _ => rfl) rfl (by decide) rfl rfl rfl rfl rfl (Nat.le_of_ble_eq_true rfl) (d_recv atM0 (by decide) (by decide)) rfl (m_X7_both1 (Nat.le_trans (by decide) hd)  g6) (fun r7 g8 => ?_)
      refine y_istore_n (lo' := [some (.ref 0), some (.int v1), some (.int r7)]) (q := 31) rfl (Nat.le_of_ble_eq_true rfl) rfl rfl ?_
      refine y_iload_n (q := 32) rfl rfl rfl ?_
      refine y_ne0 (q := 39) (q' := 35) rfl rfl rfl rfl (fun c9 => ?_) (fun c10 => ?_)
      · skip
        refine y_iload_n (q := 36) rfl rfl rfl ?_
        refine y_eq0 (q := 43) (q' := 39) rfl rfl rfl rfl (fun c11 => ?_) (fun c12 => ?_)
        · skip
          refine y_iconst (x := 0) (q := 44) rfl (by decide) rfl ?_
          refine y_istore_n (lo' := [some (.ref 0), some (.int 0), some (.int r7)]) (q := 45) rfl (Nat.le_of_ble_eq_true rfl) rfl rfl ?_
          refine y_goto (q := 5) rfl rfl ?_
          exact lz_X7_either1_5 hd  k hk n 0 g8 (some (.int r7))
        · skip
          refine y_iconst (x := 1) (q := 40) rfl (by decide) rfl ?_
          refine y_goto (q := 44) rfl rfl ?_
          refine y_istore_n (lo' := [some (.ref 0), some (.int 1), some (.int r7)]) (q := 45) rfl (Nat.le_of_ble_eq_true rfl) rfl rfl ?_
          refine y_goto (q := 5) rfl rfl ?_
          exact lz_X7_either1_5 hd  k hk n 1 g8 (some (.int r7))
      · skip
        refine y_iconst (x := 1) (q := 40) rfl (by decide) rfl ?_
        refine y_goto (q := 44) rfl rfl ?_
        refine y_istore_n (lo' := [some (.ref 0), some (.int 1), some (.int r7)]) (q := 45) rfl (Nat.le_of_ble_eq_true rfl) rfl rfl ?_
        refine y_goto (q := 5) rfl rfl ?_
        exact lz_X7_either1_5 hd  k hk n 1 g8 (some (.int r7))
def f_X7_either1  (h : dH) : Option (Int32 × dH) := oI (f_X7_both1  h) (fun r1 g2 => l_X7_either1_5   (fun v1_13 g15 => some (v1_13, g15)) fuel0 r1 g2)
theorem m_X7_either1 {d : Nat} (hd : 34 ≤ d)  (h : dH) : dX shM d 171 [.ref 0] dI (f_X7_either1  h) h := by
  obtain ⟨e, rfl⟩ : ∃ e, d = e + 1 := ⟨d - 1, by omega⟩
  have hd : 33 ≤ e := by omega
  refine dX_of (mj := mj171) (lo := [some (.ref 0), none, none]) rfl (Nat.le_of_ble_eq_true rfl) rfl ?_
  unfold f_X7_either1
  refine y_aload_n (q := 1) rfl rfl rfl ?_
  refine y_callI (I := .invokevirtual 333) (idx := 333) (KD := 1) (J := 180) (mj := mj170) (as := [.ref 0]) (r := []) (q := 4) rfl (fun _ _ _ _ _ _ => rfl) rfl (by decide) rfl rfl rfl rfl rfl (Nat.le_of_ble_eq_true rfl) (d_recv atM0 (by decide) (by decide)) rfl (m_X7_both1 (Nat.le_trans (by decide) hd)  h) (fun r1 g2 => ?_)
  refine y_istore_n (lo' := [some (.ref 0), some (.int r1), none]) (q := 5) rfl (Nat.le_of_ble_eq_true rfl) rfl rfl ?_
  refine lz_X7_either1_5 hd   _ (fun v1_13 z14 g15 => ?_) fuel0 r1 g2 (none)
  refine y_iload_n (q := 49) rfl rfl rfl ?_
  exact y_retI rfl (by decide) rfl rfl
end
end

section
/-! X7_atom0, X7_term0, X7_added0, X7_not0, X7_both0, X7_either0, X7_part, X7_read (by program) -/
noncomputable section
def f_X7_atom0  (h : dH) : Option (Int32 × dH) := oP (f_X7_isSign 45 h) (fun r1 => if r1.toInt = 0 then (oP (f_X7_isSign 40 h) (fun r4 => if r4.toInt = 0 then (if (h 0 27).toInt = 0 then (if (h 0 23).toInt = 2 then (oV (f_X7_next  h) (fun g11 => some ((h 0 25).toInt64.toInt32, g11))) else (if (h 0 27).toInt = 0 then (if (h 0 23).toInt = 1 then (oI (f_X7_name  h) (fun r16 g17 => if (g17 0 27).toInt = 0 then (oV (f_X7_next  g17) (fun g20 => some (r16, g20))) else (some (r16, g17)))) else (oV (f_X7_fail  h) (fun g21 => some (0, g21)))) else (oV (f_X7_fail  h) (fun g22 => some (0, g22))))) else (if (h 0 27).toInt = 0 then (if (h 0 23).toInt = 1 then (oI (f_X7_name  h) (fun r27 g28 => if (g28 0 27).toInt = 0 then (oV (f_X7_next  g28) (fun g31 => some (r27, g31))) else (some (r27, g28)))) else (oV (f_X7_fail  h) (fun g32 => some (0, g32)))) else (oV (f_X7_fail  h) (fun g33 => some (0, g33))))) else (oI (f_X7_opens  h) (fun r34 g35 => if r34.toInt = 0 then (some (0, g35)) else (oI (f_X7_either1  g35) (fun r38 g39 => oP (f_X7_isSign 41 g39) (fun r40 => if r40.toInt = 0 then (oV (f_X7_fail  g39) (fun g43 => oH (dU g43 0 26 ((g43 0 26) - 1)) (fun g44 => if (g44 0 27).toInt = 0 then (oV (f_X7_next  g44) (fun g47 => some (r38, g47))) else (some (r38, g44))))) else (oH (dU g39 0 26 ((g39 0 26) - 1)) (fun g48 => if (g48 0 27).toInt = 0 then (oV (f_X7_next  g48) (fun g51 => some (r38, g51))) else (some (r38, g48))))))))))) else (oI (f_X7_opens  h) (fun r52 g53 => if r52.toInt = 0 then (some (0, g53)) else (oI (f_X7_atom1  g53) (fun r56 g57 => oH (dU g57 0 26 ((g57 0 26) - 1)) (fun g58 => some ((-r56), g58)))))))
theorem m_X7_atom0 {d : Nat} (hd : 35 ≤ d)  (h : dH) : dX shM d 172 [.ref 0] dI (f_X7_atom0  h) h := by
  obtain ⟨e, rfl⟩ : ∃ e, d = e + 1 := ⟨d - 1, by omega⟩
  have hd : 34 ≤ e := by omega
  refine dX_of (mj := mj172) (lo := [some (.ref 0), none]) rfl (Nat.le_of_ble_eq_true rfl) rfl ?_
  unfold f_X7_atom0
  refine y_iconst (x := 0) (q := 1) rfl (by decide) rfl ?_
  refine y_istore_n (lo' := [some (.ref 0), some (.int 0)]) (q := 2) rfl (Nat.le_of_ble_eq_true rfl) rfl rfl ?_
  refine y_aload_n (q := 3) rfl rfl rfl ?_
  refine y_bipush (x := 45) (q := 5) rfl (by decide) rfl ?_
  refine y_callP (I := .invokevirtual 234) (idx := 234) (KD := 1) (J := 149) (mj := mj139) (as := [.ref 0, .int 45]) (r := []) (q := 8) rfl (fun _ _ _ _ _ _ => rfl) rfl (by decide) rfl rfl rfl rfl rfl (Nat.le_of_ble_eq_true rfl) (d_recv atM0 (by decide) (by decide)) rfl (m_X7_isSign (Nat.le_trans (by decide) hd) 45 h) (fun r1 => ?_)
  refine y_eq0 (q := 37) (q' := 11) rfl rfl rfl rfl (fun c2 => ?_) (fun c3 => ?_)
  · skip
    refine y_aload_n (q := 38) rfl rfl rfl ?_
    refine y_bipush (x := 40) (q := 40) rfl (by decide) rfl ?_
    refine y_callP (I := .invokevirtual 234) (idx := 234) (KD := 1) (J := 149) (mj := mj139) (as := [.ref 0, .int 40]) (r := []) (q := 43) rfl (fun _ _ _ _ _ _ => rfl) rfl (by decide) rfl rfl rfl rfl rfl (Nat.le_of_ble_eq_true rfl) (d_recv atM0 (by decide) (by decide)) rfl (m_X7_isSign (Nat.le_trans (by decide) hd) 40 h) (fun r4 => ?_)
    refine y_eq0 (q := 95) (q' := 46) rfl rfl rfl rfl (fun c5 => ?_) (fun c6 => ?_)
    · skip
      refine y_aload_n (q := 96) rfl rfl rfl ?_
      refine y_getI (q := 99) rfl rfl (by decide) atM0 rfl rfl ?_
      refine y_ne0 (q := 123) (q' := 102) rfl rfl rfl rfl (fun c7 => ?_) (fun c8 => ?_)
      · skip
        refine y_aload_n (q := 103) rfl rfl rfl ?_
        refine y_getI (q := 106) rfl rfl (by decide) atM0 rfl rfl ?_
        refine y_iconst (x := 2) (q := 107) rfl (by decide) rfl ?_
        refine y_ne (q := 123) (q' := 110) rfl rfl (by decide) rfl rfl (fun c9 => ?_) (fun c10 => ?_)
        · skip
          refine y_aload_n (q := 111) rfl rfl rfl ?_
          refine y_getL (q := 114) rfl rfl (by decide) atM0 rfl rfl ?_
          refine y_l2i (q := 115) rfl rfl ?_
          refine y_istore_n (lo' := [some (.ref 0), some (.int (h 0 25).toInt64.toInt32)]) (q := 116) rfl (Nat.le_of_ble_eq_true rfl) rfl rfl ?_
          refine y_aload_n (q := 117) rfl rfl rfl ?_
          refine y_callV (I := .invokevirtual 209) (idx := 209) (KD := 1) (J := 145) (mj := mj135) (as := [.ref 0]) (r := []) (q := 120) rfl (fun _ _ _ _ _ _ => rfl) rfl (by decide) rfl rfl rfl rfl rfl (Nat.le_of_ble_eq_true rfl) (d_recv atM0 (by decide) (by decide)) rfl (m_X7_next (Nat.le_trans (by decide) hd)  h) (fun g11 => ?_)
          refine y_goto (q := 161) rfl rfl ?_
          refine y_iload_n (q := 162) rfl rfl rfl ?_
          exact y_retI rfl (by decide) rfl rfl
        · skip
          refine y_aload_n (q := 124) rfl rfl rfl ?_
          refine y_getI (q := 127) rfl rfl (by decide) atM0 rfl rfl ?_
          refine y_ne0 (q := 157) (q' := 130) rfl rfl rfl rfl (fun c12 => ?_) (fun c13 => ?_)
          · skip
            refine y_aload_n (q := 131) rfl rfl rfl ?_
            refine y_getI (q := 134) rfl rfl (by decide) atM0 rfl rfl ?_
            refine y_iconst (x := 1) (q := 135) rfl (by decide) rfl ?_
            refine y_ne (q := 157) (q' := 138) rfl rfl (by decide) rfl rfl (fun c14 => ?_) (fun c15 => ?_)
            · skip
              refine y_aload_n (q := 139) rfl rfl rfl ?_
              refine y_callI (I := .invokevirtual 241) (idx := 241) (KD := 1) (J := 151) (mj := mj141) (as := [.ref 0]) (r := []) (q := 142) rfl (fun _ _ _ _ _ _ => rfl) rfl (by decide) rfl rfl rfl rfl rfl (Nat.le_of_ble_eq_true rfl) (d_recv atM0 (by decide) (by decide)) rfl (m_X7_name (Nat.le_trans (by decide) hd)  h) (fun r16 g17 => ?_)
              refine y_istore_n (lo' := [some (.ref 0), some (.int r16)]) (q := 143) rfl (Nat.le_of_ble_eq_true rfl) rfl rfl ?_
              refine y_aload_n (q := 144) rfl rfl rfl ?_
              refine y_getI (q := 147) rfl rfl (by decide) atM0 rfl rfl ?_
              refine y_ne0 (q := 161) (q' := 150) rfl rfl rfl rfl (fun c18 => ?_) (fun c19 => ?_)
              · skip
                refine y_aload_n (q := 151) rfl rfl rfl ?_
                refine y_callV (I := .invokevirtual 209) (idx := 209) (KD := 1) (J := 145) (mj := mj135) (as := [.ref 0]) (r := []) (q := 154) rfl (fun _ _ _ _ _ _ => rfl) rfl (by decide) rfl rfl rfl rfl rfl (Nat.le_of_ble_eq_true rfl) (d_recv atM0 (by decide) (by decide)) rfl (m_X7_next (Nat.le_trans (by decide) hd)  g17) (fun g20 => ?_)
                refine y_goto (q := 161) rfl rfl ?_
                refine y_iload_n (q := 162) rfl rfl rfl ?_
                exact y_retI rfl (by decide) rfl rfl
              · skip
                refine y_iload_n (q := 162) rfl rfl rfl ?_
                exact y_retI rfl (by decide) rfl rfl
            · skip
              refine y_aload_n (q := 158) rfl rfl rfl ?_
              refine y_callV (I := .invokevirtual 206) (idx := 206) (KD := 1) (J := 146) (mj := mj136) (as := [.ref 0]) (r := []) (q := 161) rfl (fun _ _ _ _ _ _ => rfl) rfl (by decide) rfl rfl rfl rfl rfl (Nat.le_of_ble_eq_true rfl) (d_recv atM0 (by decide) (by decide)) rfl (m_X7_fail (Nat.le_trans (by decide) hd)  h) (fun g21 => ?_)
              refine y_iload_n (q := 162) rfl rfl rfl ?_
              exact y_retI rfl (by decide) rfl rfl
          · skip
            refine y_aload_n (q := 158) rfl rfl rfl ?_
            refine y_callV (I := .invokevirtual 206) (idx := 206) (KD := 1) (J := 146) (mj := mj136) (as := [.ref 0]) (r := []) (q := 161) rfl (fun _ _ _ _ _ _ => rfl) rfl (by decide) rfl rfl rfl rfl rfl (Nat.le_of_ble_eq_true rfl) (d_recv atM0 (by decide) (by decide)) rfl (m_X7_fail (Nat.le_trans (by decide) hd)  h) (fun g22 => ?_)
            refine y_iload_n (q := 162) rfl rfl rfl ?_
            exact y_retI rfl (by decide) rfl rfl
      · skip
        refine y_aload_n (q := 124) rfl rfl rfl ?_
        refine y_getI (q := 127) rfl rfl (by decide) atM0 rfl rfl ?_
        refine y_ne0 (q := 157) (q' := 130) rfl rfl rfl rfl (fun c23 => ?_) (fun c24 => ?_)
        · skip
          refine y_aload_n (q := 131) rfl rfl rfl ?_
          refine y_getI (q := 134) rfl rfl (by decide) atM0 rfl rfl ?_
          refine y_iconst (x := 1) (q := 135) rfl (by decide) rfl ?_
          refine y_ne (q := 157) (q' := 138) rfl rfl (by decide) rfl rfl (fun c25 => ?_) (fun c26 => ?_)
          · skip
            refine y_aload_n (q := 139) rfl rfl rfl ?_
            refine y_callI (I := .invokevirtual 241) (idx := 241) (KD := 1) (J := 151) (mj := mj141) (as := [.ref 0]) (r := []) (q := 142) rfl (fun _ _ _ _ _ _ => rfl) rfl (by decide) rfl rfl rfl rfl rfl (Nat.le_of_ble_eq_true rfl) (d_recv atM0 (by decide) (by decide)) rfl (m_X7_name (Nat.le_trans (by decide) hd)  h) (fun r27 g28 => ?_)
            refine y_istore_n (lo' := [some (.ref 0), some (.int r27)]) (q := 143) rfl (Nat.le_of_ble_eq_true rfl) rfl rfl ?_
            refine y_aload_n (q := 144) rfl rfl rfl ?_
            refine y_getI (q := 147) rfl rfl (by decide) atM0 rfl rfl ?_
            refine y_ne0 (q := 161) (q' := 150) rfl rfl rfl rfl (fun c29 => ?_) (fun c30 => ?_)
            · skip
              refine y_aload_n (q := 151) rfl rfl rfl ?_
              refine y_callV (I := .invokevirtual 209) (idx := 209) (KD := 1) (J := 145) (mj := mj135) (as := [.ref 0]) (r := []) (q := 154) rfl (fun _ _ _ _ _ _ => rfl) rfl (by decide) rfl rfl rfl rfl rfl (Nat.le_of_ble_eq_true rfl) (d_recv atM0 (by decide) (by decide)) rfl (m_X7_next (Nat.le_trans (by decide) hd)  g28) (fun g31 => ?_)
              refine y_goto (q := 161) rfl rfl ?_
              refine y_iload_n (q := 162) rfl rfl rfl ?_
              exact y_retI rfl (by decide) rfl rfl
            · skip
              refine y_iload_n (q := 162) rfl rfl rfl ?_
              exact y_retI rfl (by decide) rfl rfl
          · skip
            refine y_aload_n (q := 158) rfl rfl rfl ?_
            refine y_callV (I := .invokevirtual 206) (idx := 206) (KD := 1) (J := 146) (mj := mj136) (as := [.ref 0]) (r := []) (q := 161) rfl (fun _ _ _ _ _ _ => rfl) rfl (by decide) rfl rfl rfl rfl rfl (Nat.le_of_ble_eq_true rfl) (d_recv atM0 (by decide) (by decide)) rfl (m_X7_fail (Nat.le_trans (by decide) hd)  h) (fun g32 => ?_)
            refine y_iload_n (q := 162) rfl rfl rfl ?_
            exact y_retI rfl (by decide) rfl rfl
        · skip
          refine y_aload_n (q := 158) rfl rfl rfl ?_
          refine y_callV (I := .invokevirtual 206) (idx := 206) (KD := 1) (J := 146) (mj := mj136) (as := [.ref 0]) (r := []) (q := 161) rfl (fun _ _ _ _ _ _ => rfl) rfl (by decide) rfl rfl rfl rfl rfl (Nat.le_of_ble_eq_true rfl) (d_recv atM0 (by decide) (by decide)) rfl (m_X7_fail (Nat.le_trans (by decide) hd)  h) (fun g33 => ?_)
          refine y_iload_n (q := 162) rfl rfl rfl ?_
          exact y_retI rfl (by decide) rfl rfl
    · skip
      refine y_aload_n (q := 47) rfl rfl rfl ?_
      refine y_callI (I := .invokevirtual 237) (idx := 237) (KD := 1) (J := 150) (mj := mj140) (as := [.ref 0]) (r := []) (q := 50) rfl (fun _ _ _ _ _ _ => rfl) rfl (by decide) rfl rfl rfl rfl rfl (Nat.le_of_ble_eq_true rfl) (d_recv atM0 (by decide) (by decide)) rfl (m_X7_opens (Nat.le_trans (by decide) hd)  h) (fun r34 g35 => ?_)
      refine y_eq0 (q := 161) (q' := 53) rfl rfl rfl rfl (fun c36 => ?_) (fun c37 => ?_)
      · skip
        refine y_iload_n (q := 162) rfl rfl rfl ?_
        exact y_retI rfl (by decide) rfl rfl
      · skip
        refine y_aload_n (q := 54) rfl rfl rfl ?_
        refine y_callI (I := .invokevirtual 336) (idx := 336) (KD := 1) (J := 181) (mj := mj171) (as := [.ref 0]) (r := []) (q := 57) rfl (fun _ _ _ _ _ _ => rfl) rfl (by decide) rfl rfl rfl rfl rfl (Nat.le_of_ble_eq_true rfl) (d_recv atM0 (by decide) (by decide)) rfl (m_X7_either1 (Nat.le_trans (by decide) hd)  g35) (fun r38 g39 => ?_)
        refine y_istore_n (lo' := [some (.ref 0), some (.int r38)]) (q := 58) rfl (Nat.le_of_ble_eq_true rfl) rfl rfl ?_
        refine y_aload_n (q := 59) rfl rfl rfl ?_
        refine y_bipush (x := 41) (q := 61) rfl (by decide) rfl ?_
        refine y_callP (I := .invokevirtual 234) (idx := 234) (KD := 1) (J := 149) (mj := mj139) (as := [.ref 0, .int 41]) (r := []) (q := 64) rfl (fun _ _ _ _ _ _ => rfl) rfl (by decide) rfl rfl rfl rfl rfl (Nat.le_of_ble_eq_true rfl) (d_recv atM0 (by decide) (by decide)) rfl (m_X7_isSign (Nat.le_trans (by decide) hd) 41 g39) (fun r40 => ?_)
        refine y_ne0 (q := 71) (q' := 67) rfl rfl rfl rfl (fun c41 => ?_) (fun c42 => ?_)
        · skip
          refine y_aload_n (q := 68) rfl rfl rfl ?_
          refine y_callV (I := .invokevirtual 206) (idx := 206) (KD := 1) (J := 146) (mj := mj136) (as := [.ref 0]) (r := []) (q := 71) rfl (fun _ _ _ _ _ _ => rfl) rfl (by decide) rfl rfl rfl rfl rfl (Nat.le_of_ble_eq_true rfl) (d_recv atM0 (by decide) (by decide)) rfl (m_X7_fail (Nat.le_trans (by decide) hd)  g39) (fun g43 => ?_)
          refine y_aload_n (q := 72) rfl rfl rfl ?_
          refine y_dup (q := 73) rfl rfl ?_
          refine y_getI (q := 76) rfl rfl (by decide) atM0 rfl rfl ?_
          refine y_iconst (x := 1) (q := 77) rfl (by decide) rfl ?_
          refine y_isub (q := 78) rfl rfl ?_
          refine y_putI (q := 81) rfl rfl (by decide) atM0 rfl rfl rfl rfl (fun g44 => ?_)
          refine y_aload_n (q := 82) rfl rfl rfl ?_
          refine y_getI (q := 85) rfl rfl (by decide) atM0 rfl rfl ?_
          refine y_ne0 (q := 161) (q' := 88) rfl rfl rfl rfl (fun c45 => ?_) (fun c46 => ?_)
          · skip
            refine y_aload_n (q := 89) rfl rfl rfl ?_
            refine y_callV (I := .invokevirtual 209) (idx := 209) (KD := 1) (J := 145) (mj := mj135) (as := [.ref 0]) (r := []) (q := 92) rfl (fun _ _ _ _ _ _ => rfl) rfl (by decide) rfl rfl rfl rfl rfl (Nat.le_of_ble_eq_true rfl) (d_recv atM0 (by decide) (by decide)) rfl (m_X7_next (Nat.le_trans (by decide) hd)  g44) (fun g47 => ?_)
            refine y_goto (q := 161) rfl rfl ?_
            refine y_iload_n (q := 162) rfl rfl rfl ?_
            exact y_retI rfl (by decide) rfl rfl
          · skip
            refine y_iload_n (q := 162) rfl rfl rfl ?_
            exact y_retI rfl (by decide) rfl rfl
        · skip
          refine y_aload_n (q := 72) rfl rfl rfl ?_
          refine y_dup (q := 73) rfl rfl ?_
          refine y_getI (q := 76) rfl rfl (by decide) atM0 rfl rfl ?_
          refine y_iconst (x := 1) (q := 77) rfl (by decide) rfl ?_
          refine y_isub (q := 78) rfl rfl ?_
          refine y_putI (q := 81) rfl rfl (by decide) atM0 rfl rfl rfl rfl (fun g48 => ?_)
          refine y_aload_n (q := 82) rfl rfl rfl ?_
          refine y_getI (q := 85) rfl rfl (by decide) atM0 rfl rfl ?_
          refine y_ne0 (q := 161) (q' := 88) rfl rfl rfl rfl (fun c49 => ?_) (fun c50 => ?_)
          · skip
            refine y_aload_n (q := 89) rfl rfl rfl ?_
            refine y_callV (I := .invokevirtual 209) (idx := 209) (KD := 1) (J := 145) (mj := mj135) (as := [.ref 0]) (r := []) (q := 92) rfl (fun _ _ _ _ _ _ => rfl) rfl (by decide) rfl rfl rfl rfl rfl (Nat.le_of_ble_eq_true rfl) (d_recv atM0 (by decide) (by decide)) rfl (m_X7_next (Nat.le_trans (by decide) hd)  g48) (fun g51 => ?_)
            refine y_goto (q := 161) rfl rfl ?_
            refine y_iload_n (q := 162) rfl rfl rfl ?_
            exact y_retI rfl (by decide) rfl rfl
          · skip
            refine y_iload_n (q := 162) rfl rfl rfl ?_
            exact y_retI rfl (by decide) rfl rfl
  · skip
    refine y_aload_n (q := 12) rfl rfl rfl ?_
    refine y_callI (I := .invokevirtual 237) (idx := 237) (KD := 1) (J := 150) (mj := mj140) (as := [.ref 0]) (r := []) (q := 15) rfl (fun _ _ _ _ _ _ => rfl) rfl (by decide) rfl rfl rfl rfl rfl (Nat.le_of_ble_eq_true rfl) (d_recv atM0 (by decide) (by decide)) rfl (m_X7_opens (Nat.le_trans (by decide) hd)  h) (fun r52 g53 => ?_)
    refine y_eq0 (q := 161) (q' := 18) rfl rfl rfl rfl (fun c54 => ?_) (fun c55 => ?_)
    · skip
      refine y_iload_n (q := 162) rfl rfl rfl ?_
      exact y_retI rfl (by decide) rfl rfl
    · skip
      refine y_aload_n (q := 19) rfl rfl rfl ?_
      refine y_callI (I := .invokevirtual 321) (idx := 321) (KD := 1) (J := 176) (mj := mj166) (as := [.ref 0]) (r := []) (q := 22) rfl (fun _ _ _ _ _ _ => rfl) rfl (by decide) rfl rfl rfl rfl rfl (Nat.le_of_ble_eq_true rfl) (d_recv atM0 (by decide) (by decide)) rfl (m_X7_atom1 (Nat.le_trans (by decide) hd)  g53) (fun r56 g57 => ?_)
      refine y_ineg (q := 23) rfl rfl ?_
      refine y_istore_n (lo' := [some (.ref 0), some (.int (-r56))]) (q := 24) rfl (Nat.le_of_ble_eq_true rfl) rfl rfl ?_
      refine y_aload_n (q := 25) rfl rfl rfl ?_
      refine y_dup (q := 26) rfl rfl ?_
      refine y_getI (q := 29) rfl rfl (by decide) atM0 rfl rfl ?_
      refine y_iconst (x := 1) (q := 30) rfl (by decide) rfl ?_
      refine y_isub (q := 31) rfl rfl ?_
      refine y_putI (q := 34) rfl rfl (by decide) atM0 rfl rfl rfl rfl (fun g58 => ?_)
      refine y_goto (q := 161) rfl rfl ?_
      refine y_iload_n (q := 162) rfl rfl rfl ?_
      exact y_retI rfl (by decide) rfl rfl
def l_X7_term0_5  (k : Int32 → dH → Option (Int32 × dH)) : Nat → Int32 → dH → Option (Int32 × dH)
  | 0, _, _ => none
  | n + 1, v1, h => oP (f_X7_isSign 42 h) (fun r3 => if r3.toInt = 0 then (k v1 h) else (oV (f_X7_next  h) (fun g6 => oI (f_X7_atom0  g6) (fun r7 g8 => l_X7_term0_5  k n (v1 * r7) g8))))
theorem lz_X7_term0_5 {d : Nat} (hd : 35 ≤ d)  (k : Int32 → dH → Option (Int32 × dH)) (hk : ∀ (v1 : Int32) (h : dH), dY shM d mj173 dI (k v1 h) 28 [some (.ref 0), some (.int v1)] [] h) : ∀ (n : Nat) (v1 : Int32) (h : dH), dY shM d mj173 dI (l_X7_term0_5  k n v1 h) 5 [some (.ref 0), some (.int v1)] [] h
  | 0, _, _ => dY_none
  | n + 1, v1, h => by
    rw [l_X7_term0_5]
    refine y_aload_n (q := 6) rfl rfl rfl ?_
    refine y_bipush (x := 42) (q := 8) rfl (by decide) rfl ?_
    refine y_callP (I := .invokevirtual 234) (idx := 234) (KD := 1) (J := 149) (mj := mj139) (as := [.ref 0, .int 42]) (r := []) (q := 11) rfl (fun _ _ _ _ _ _ => rfl) rfl (by decide) rfl rfl rfl rfl rfl (Nat.le_of_ble_eq_true rfl) (d_recv atM0 (by decide) (by decide)) rfl (m_X7_isSign (Nat.le_trans (by decide) hd) 42 h) (fun r3 => ?_)
    refine y_eq0 (q := 28) (q' := 14) rfl rfl rfl rfl (fun c4 => ?_) (fun c5 => ?_)
    · skip
      exact hk v1  h
    · skip
      refine y_aload_n (q := 15) rfl rfl rfl ?_
      refine y_callV (I := .invokevirtual 209) (idx := 209) (KD := 1) (J := 145) (mj := mj135) (as := [.ref 0]) (r := []) (q := 18) rfl (fun _ _ _ _ _ _ => rfl) rfl (by decide) rfl rfl rfl rfl rfl (Nat.le_of_ble_eq_true rfl) (d_recv atM0 (by decide) (by decide)) rfl (m_X7_next (Nat.le_trans (by decide) hd)  h) (fun g6 => ?_)
      refine y_iload_n (q := 19) rfl rfl rfl ?_
      refine y_aload_n (q := 20) rfl rfl rfl ?_
      refine y_callI (I := .invokevirtual 339) (idx := 339) (KD := 1) (J := 182) (mj := mj172) (as := [.ref 0]) (r := [.int v1]) (q := 23) rfl (fun _ _ _ _ _ _ => rfl) rfl (by decide) rfl rfl rfl rfl rfl (Nat.le_of_ble_eq_true rfl) (d_recv atM0 (by decide) (by decide)) rfl (m_X7_atom0 (Nat.le_trans (by decide) hd)  g6) (fun r7 g8 => ?_)
      refine y_imul (q := 24) rfl rfl ?_
      refine y_istore_n (lo' := [some (.ref 0), some (.int (v1 * r7))]) (q := 25) rfl (Nat.le_of_ble_eq_true rfl) rfl rfl ?_
      refine y_goto (q := 5) rfl rfl ?_
      exact lz_X7_term0_5 hd  k hk n (v1 * r7) g8 
def f_X7_term0  (h : dH) : Option (Int32 × dH) := oI (f_X7_atom0  h) (fun r1 g2 => l_X7_term0_5   (fun v1_9 g10 => some (v1_9, g10)) fuel0 r1 g2)
theorem m_X7_term0 {d : Nat} (hd : 36 ≤ d)  (h : dH) : dX shM d 173 [.ref 0] dI (f_X7_term0  h) h := by
  obtain ⟨e, rfl⟩ : ∃ e, d = e + 1 := ⟨d - 1, by omega⟩
  have hd : 35 ≤ e := by omega
  refine dX_of (mj := mj173) (lo := [some (.ref 0), none]) rfl (Nat.le_of_ble_eq_true rfl) rfl ?_
  unfold f_X7_term0
  refine y_aload_n (q := 1) rfl rfl rfl ?_
  refine y_callI (I := .invokevirtual 339) (idx := 339) (KD := 1) (J := 182) (mj := mj172) (as := [.ref 0]) (r := []) (q := 4) rfl (fun _ _ _ _ _ _ => rfl) rfl (by decide) rfl rfl rfl rfl rfl (Nat.le_of_ble_eq_true rfl) (d_recv atM0 (by decide) (by decide)) rfl (m_X7_atom0 (Nat.le_trans (by decide) hd)  h) (fun r1 g2 => ?_)
  refine y_istore_n (lo' := [some (.ref 0), some (.int r1)]) (q := 5) rfl (Nat.le_of_ble_eq_true rfl) rfl rfl ?_
  refine lz_X7_term0_5 hd   _ (fun v1_9 g10 => ?_) fuel0 r1 g2 
  refine y_iload_n (q := 29) rfl rfl rfl ?_
  exact y_retI rfl (by decide) rfl rfl
def l_X7_added0_5  (k : Int32 → dH → Option (Int32 × dH)) : Nat → Int32 → dH → Option (Int32 × dH)
  | 0, _, _ => none
  | n + 1, v1, h => oP (f_X7_isSign 43 h) (fun r3 => if r3.toInt = 0 then (oP (f_X7_isSign 45 h) (fun r6 => if r6.toInt = 0 then (k v1 h) else (if (dlcmp (h 0 25).toInt64 43).toInt = 0 then (oV (f_X7_next  h) (fun g11 => oI (f_X7_term0  g11) (fun r12 g13 => l_X7_added0_5  k n (v1 + r12) g13))) else (oV (f_X7_next  h) (fun g14 => oI (f_X7_term0  g14) (fun r15 g16 => l_X7_added0_5  k n (v1 - r15) g16)))))) else (if (dlcmp (h 0 25).toInt64 43).toInt = 0 then (oV (f_X7_next  h) (fun g19 => oI (f_X7_term0  g19) (fun r20 g21 => l_X7_added0_5  k n (v1 + r20) g21))) else (oV (f_X7_next  h) (fun g22 => oI (f_X7_term0  g22) (fun r23 g24 => l_X7_added0_5  k n (v1 - r23) g24)))))
theorem lz_X7_added0_5 {d : Nat} (hd : 36 ≤ d)  (k : Int32 → dH → Option (Int32 × dH)) (hk : ∀ (v1 : Int32) (z2 : Option Value) (z3 : Option Value) (h : dH), dY shM d mj174 dI (k v1 h) 66 [some (.ref 0), some (.int v1), z2, z3] [] h) : ∀ (n : Nat) (v1 : Int32) (h : dH) (z2 : Option Value) (z3 : Option Value), dY shM d mj174 dI (l_X7_added0_5  k n v1 h) 5 [some (.ref 0), some (.int v1), z2, z3] [] h
  | 0, _, _, _, _ => dY_none
  | n + 1, v1, h, z2, z3 => by
    rw [l_X7_added0_5]
    refine y_aload_n (q := 6) rfl rfl rfl ?_
    refine y_bipush (x := 43) (q := 8) rfl (by decide) rfl ?_
    refine y_callP (I := .invokevirtual 234) (idx := 234) (KD := 1) (J := 149) (mj := mj139) (as := [.ref 0, .int 43]) (r := []) (q := 11) rfl (fun _ _ _ _ _ _ => rfl) rfl (by decide) rfl rfl rfl rfl rfl (Nat.le_of_ble_eq_true rfl) (d_recv atM0 (by decide) (by decide)) rfl (m_X7_isSign (Nat.le_trans (by decide) hd) 43 h) (fun r3 => ?_)
    refine y_ne0 (q := 23) (q' := 14) rfl rfl rfl rfl (fun c4 => ?_) (fun c5 => ?_)
    · skip
      refine y_aload_n (q := 15) rfl rfl rfl ?_
      refine y_bipush (x := 45) (q := 17) rfl (by decide) rfl ?_
      refine y_callP (I := .invokevirtual 234) (idx := 234) (KD := 1) (J := 149) (mj := mj139) (as := [.ref 0, .int 45]) (r := []) (q := 20) rfl (fun _ _ _ _ _ _ => rfl) rfl (by decide) rfl rfl rfl rfl rfl (Nat.le_of_ble_eq_true rfl) (d_recv atM0 (by decide) (by decide)) rfl (m_X7_isSign (Nat.le_trans (by decide) hd) 45 h) (fun r6 => ?_)
      refine y_eq0 (q := 66) (q' := 23) rfl rfl rfl rfl (fun c7 => ?_) (fun c8 => ?_)
      · skip
        exact hk v1 (z2) (z3) h
      · skip
        refine y_aload_n (q := 24) rfl rfl rfl ?_
        refine y_getL (q := 27) rfl rfl (by decide) atM0 rfl rfl ?_
        refine y_ldc2_w (u := 43) (q := 30) rfl rfl rfl ?_
        refine y_lcmp (q := 31) rfl rfl ?_
        refine y_ne0 (q := 38) (q' := 34) rfl rfl rfl rfl (fun c9 => ?_) (fun c10 => ?_)
        · skip
          refine y_iconst (x := 1) (q := 35) rfl (by decide) rfl ?_
          refine y_goto (q := 39) rfl rfl ?_
          refine y_istore_n (lo' := [some (.ref 0), some (.int v1), some (.int 1), z3]) (q := 40) rfl (Nat.le_of_ble_eq_true rfl) rfl rfl ?_
          refine y_aload_n (q := 41) rfl rfl rfl ?_
          refine y_callV (I := .invokevirtual 209) (idx := 209) (KD := 1) (J := 145) (mj := mj135) (as := [.ref 0]) (r := []) (q := 44) rfl (fun _ _ _ _ _ _ => rfl) rfl (by decide) rfl rfl rfl rfl rfl (Nat.le_of_ble_eq_true rfl) (d_recv atM0 (by decide) (by decide)) rfl (m_X7_next (Nat.le_trans (by decide) hd)  h) (fun g11 => ?_)
          refine y_aload_n (q := 45) rfl rfl rfl ?_
          refine y_callI (I := .invokevirtual 342) (idx := 342) (KD := 1) (J := 183) (mj := mj173) (as := [.ref 0]) (r := []) (q := 48) rfl (fun _ _ _ _ _ _ => rfl) rfl (by decide) rfl rfl rfl rfl rfl (Nat.le_of_ble_eq_true rfl) (d_recv atM0 (by decide) (by decide)) rfl (m_X7_term0 (Nat.le_trans (by decide) hd)  g11) (fun r12 g13 => ?_)
          refine y_istore_n (lo' := [some (.ref 0), some (.int v1), some (.int 1), some (.int r12)]) (q := 49) rfl (Nat.le_of_ble_eq_true rfl) rfl rfl ?_
          refine y_iload_n (q := 50) rfl rfl rfl ?_
          refine y_ifF (q := 53) rfl (by decide) rfl rfl ?_
          refine y_iload_n (q := 54) rfl rfl rfl ?_
          refine y_iload_n (q := 55) rfl rfl rfl ?_
          refine y_iadd (q := 56) rfl rfl ?_
          refine y_goto (q := 62) rfl rfl ?_
          refine y_istore_n (lo' := [some (.ref 0), some (.int (v1 + r12)), some (.int 1), some (.int r12)]) (q := 63) rfl (Nat.le_of_ble_eq_true rfl) rfl rfl ?_
          refine y_goto (q := 5) rfl rfl ?_
          exact lz_X7_added0_5 hd  k hk n (v1 + r12) g13 (some (.int 1)) (some (.int r12))
        · skip
          refine y_iconst (x := 0) (q := 39) rfl (by decide) rfl ?_
          refine y_istore_n (lo' := [some (.ref 0), some (.int v1), some (.int 0), z3]) (q := 40) rfl (Nat.le_of_ble_eq_true rfl) rfl rfl ?_
          refine y_aload_n (q := 41) rfl rfl rfl ?_
          refine y_callV (I := .invokevirtual 209) (idx := 209) (KD := 1) (J := 145) (mj := mj135) (as := [.ref 0]) (r := []) (q := 44) rfl (fun _ _ _ _ _ _ => rfl) rfl (by decide) rfl rfl rfl rfl rfl (Nat.le_of_ble_eq_true rfl) (d_recv atM0 (by decide) (by decide)) rfl (m_X7_next (Nat.le_trans (by decide) hd)  h) (fun g14 => ?_)
          refine y_aload_n (q := 45) rfl rfl rfl ?_
          refine y_callI (I := .invokevirtual 342) (idx := 342) (KD := 1) (J := 183) (mj := mj173) (as := [.ref 0]) (r := []) (q := 48) rfl (fun _ _ _ _ _ _ => rfl) rfl (by decide) rfl rfl rfl rfl rfl (Nat.le_of_ble_eq_true rfl) (d_recv atM0 (by decide) (by decide)) rfl (m_X7_term0 (Nat.le_trans (by decide) hd)  g14) (fun r15 g16 => ?_)
          refine y_istore_n (lo' := [some (.ref 0), some (.int v1), some (.int 0), some (.int r15)]) (q := 49) rfl (Nat.le_of_ble_eq_true rfl) rfl rfl ?_
          refine y_iload_n (q := 50) rfl rfl rfl ?_
          refine y_ifT (q := 59) rfl (by decide) rfl ?_
          refine y_iload_n (q := 60) rfl rfl rfl ?_
          refine y_iload_n (q := 61) rfl rfl rfl ?_
          refine y_isub (q := 62) rfl rfl ?_
          refine y_istore_n (lo' := [some (.ref 0), some (.int (v1 - r15)), some (.int 0), some (.int r15)]) (q := 63) rfl (Nat.le_of_ble_eq_true rfl) rfl rfl ?_
          refine y_goto (q := 5) rfl rfl ?_
          exact lz_X7_added0_5 hd  k hk n (v1 - r15) g16 (some (.int 0)) (some (.int r15))
    · skip
      refine y_aload_n (q := 24) rfl rfl rfl ?_
      refine y_getL (q := 27) rfl rfl (by decide) atM0 rfl rfl ?_
      refine y_ldc2_w (u := 43) (q := 30) rfl rfl rfl ?_
      refine y_lcmp (q := 31) rfl rfl ?_
      refine y_ne0 (q := 38) (q' := 34) rfl rfl rfl rfl (fun c17 => ?_) (fun c18 => ?_)
      · skip
        refine y_iconst (x := 1) (q := 35) rfl (by decide) rfl ?_
        refine y_goto (q := 39) rfl rfl ?_
        refine y_istore_n (lo' := [some (.ref 0), some (.int v1), some (.int 1), z3]) (q := 40) rfl (Nat.le_of_ble_eq_true rfl) rfl rfl ?_
        refine y_aload_n (q := 41) rfl rfl rfl ?_
        refine y_callV (I := .invokevirtual 209) (idx := 209) (KD := 1) (J := 145) (mj := mj135) (as := [.ref 0]) (r := []) (q := 44) rfl (fun _ _ _ _ _ _ => rfl) rfl (by decide) rfl rfl rfl rfl rfl (Nat.le_of_ble_eq_true rfl) (d_recv atM0 (by decide) (by decide)) rfl (m_X7_next (Nat.le_trans (by decide) hd)  h) (fun g19 => ?_)
        refine y_aload_n (q := 45) rfl rfl rfl ?_
        refine y_callI (I := .invokevirtual 342) (idx := 342) (KD := 1) (J := 183) (mj := mj173) (as := [.ref 0]) (r := []) (q := 48) rfl (fun _ _ _ _ _ _ => rfl) rfl (by decide) rfl rfl rfl rfl rfl (Nat.le_of_ble_eq_true rfl) (d_recv atM0 (by decide) (by decide)) rfl (m_X7_term0 (Nat.le_trans (by decide) hd)  g19) (fun r20 g21 => ?_)
        refine y_istore_n (lo' := [some (.ref 0), some (.int v1), some (.int 1), some (.int r20)]) (q := 49) rfl (Nat.le_of_ble_eq_true rfl) rfl rfl ?_
        refine y_iload_n (q := 50) rfl rfl rfl ?_
        refine y_ifF (q := 53) rfl (by decide) rfl rfl ?_
        refine y_iload_n (q := 54) rfl rfl rfl ?_
        refine y_iload_n (q := 55) rfl rfl rfl ?_
        refine y_iadd (q := 56) rfl rfl ?_
        refine y_goto (q := 62) rfl rfl ?_
        refine y_istore_n (lo' := [some (.ref 0), some (.int (v1 + r20)), some (.int 1), some (.int r20)]) (q := 63) rfl (Nat.le_of_ble_eq_true rfl) rfl rfl ?_
        refine y_goto (q := 5) rfl rfl ?_
        exact lz_X7_added0_5 hd  k hk n (v1 + r20) g21 (some (.int 1)) (some (.int r20))
      · skip
        refine y_iconst (x := 0) (q := 39) rfl (by decide) rfl ?_
        refine y_istore_n (lo' := [some (.ref 0), some (.int v1), some (.int 0), z3]) (q := 40) rfl (Nat.le_of_ble_eq_true rfl) rfl rfl ?_
        refine y_aload_n (q := 41) rfl rfl rfl ?_
        refine y_callV (I := .invokevirtual 209) (idx := 209) (KD := 1) (J := 145) (mj := mj135) (as := [.ref 0]) (r := []) (q := 44) rfl (fun _ _ _ _ _ _ => rfl) rfl (by decide) rfl rfl rfl rfl rfl (Nat.le_of_ble_eq_true rfl) (d_recv atM0 (by decide) (by decide)) rfl (m_X7_next (Nat.le_trans (by decide) hd)  h) (fun g22 => ?_)
        refine y_aload_n (q := 45) rfl rfl rfl ?_
        refine y_callI (I := .invokevirtual 342) (idx := 342) (KD := 1) (J := 183) (mj := mj173) (as := [.ref 0]) (r := []) (q := 48) rfl (fun _ _ _ _ _ _ => rfl) rfl (by decide) rfl rfl rfl rfl rfl (Nat.le_of_ble_eq_true rfl) (d_recv atM0 (by decide) (by decide)) rfl (m_X7_term0 (Nat.le_trans (by decide) hd)  g22) (fun r23 g24 => ?_)
        refine y_istore_n (lo' := [some (.ref 0), some (.int v1), some (.int 0), some (.int r23)]) (q := 49) rfl (Nat.le_of_ble_eq_true rfl) rfl rfl ?_
        refine y_iload_n (q := 50) rfl rfl rfl ?_
        refine y_ifT (q := 59) rfl (by decide) rfl ?_
        refine y_iload_n (q := 60) rfl rfl rfl ?_
        refine y_iload_n (q := 61) rfl rfl rfl ?_
        refine y_isub (q := 62) rfl rfl ?_
        refine y_istore_n (lo' := [some (.ref 0), some (.int (v1 - r23)), some (.int 0), some (.int r23)]) (q := 63) rfl (Nat.le_of_ble_eq_true rfl) rfl rfl ?_
        refine y_goto (q := 5) rfl rfl ?_
        exact lz_X7_added0_5 hd  k hk n (v1 - r23) g24 (some (.int 0)) (some (.int r23))
def f_X7_added0  (h : dH) : Option (Int32 × dH) := oI (f_X7_term0  h) (fun r1 g2 => l_X7_added0_5   (fun v1_25 g28 => some (v1_25, g28)) fuel0 r1 g2)
theorem m_X7_added0 {d : Nat} (hd : 37 ≤ d)  (h : dH) : dX shM d 174 [.ref 0] dI (f_X7_added0  h) h := by
  obtain ⟨e, rfl⟩ : ∃ e, d = e + 1 := ⟨d - 1, by omega⟩
  have hd : 36 ≤ e := by omega
  refine dX_of (mj := mj174) (lo := [some (.ref 0), none, none, none]) rfl (Nat.le_of_ble_eq_true rfl) rfl ?_
  unfold f_X7_added0
  refine y_aload_n (q := 1) rfl rfl rfl ?_
  refine y_callI (I := .invokevirtual 342) (idx := 342) (KD := 1) (J := 183) (mj := mj173) (as := [.ref 0]) (r := []) (q := 4) rfl (fun _ _ _ _ _ _ => rfl) rfl (by decide) rfl rfl rfl rfl rfl (Nat.le_of_ble_eq_true rfl) (d_recv atM0 (by decide) (by decide)) rfl (m_X7_term0 (Nat.le_trans (by decide) hd)  h) (fun r1 g2 => ?_)
  refine y_istore_n (lo' := [some (.ref 0), some (.int r1), none, none]) (q := 5) rfl (Nat.le_of_ble_eq_true rfl) rfl rfl ?_
  refine lz_X7_added0_5 hd   _ (fun v1_25 z26 z27 g28 => ?_) fuel0 r1 g2 (none) (none)
  refine y_iload_n (q := 67) rfl rfl rfl ?_
  exact y_retI rfl (by decide) rfl rfl
def f_X7_not0  (h : dH) : Option (Int32 × dH) := oP (f_X7_isWord 110 111 116 0 0 0 0 0 h) (fun r1 => if r1.toInt = 0 then (oI (f_X7_added0  h) (fun r4 g5 => oP (f_X7_isSign 60 g5) (fun r6 => if r6.toInt = 0 then (oP (f_X7_isSign 61 g5) (fun r9 => if r9.toInt = 0 then (some (r4, g5)) else (if (dlcmp (g5 0 25).toInt64 60).toInt = 0 then (oV (f_X7_next  g5) (fun g14 => oI (f_X7_added0  g14) (fun r15 g16 => if r4.toInt < r15.toInt then (some (1, g16)) else (some (0, g16))))) else (oV (f_X7_next  g5) (fun g19 => oI (f_X7_added0  g19) (fun r20 g21 => if r4.toInt = r20.toInt then (some (1, g21)) else (some (0, g21)))))))) else (if (dlcmp (g5 0 25).toInt64 60).toInt = 0 then (oV (f_X7_next  g5) (fun g26 => oI (f_X7_added0  g26) (fun r27 g28 => if r4.toInt < r27.toInt then (some (1, g28)) else (some (0, g28))))) else (oV (f_X7_next  g5) (fun g31 => oI (f_X7_added0  g31) (fun r32 g33 => if r4.toInt = r32.toInt then (some (1, g33)) else (some (0, g33))))))))) else (oI (f_X7_opens  h) (fun r36 g37 => if r36.toInt = 0 then (some (0, g37)) else (oI (f_X7_not1  g37) (fun r40 g41 => oH (dU g41 0 26 ((g41 0 26) - 1)) (fun g42 => if r40.toInt = 0 then (some (1, g42)) else (some (0, g42))))))))
theorem m_X7_not0 {d : Nat} (hd : 38 ≤ d)  (h : dH) : dX shM d 175 [.ref 0] dI (f_X7_not0  h) h := by
  obtain ⟨e, rfl⟩ : ∃ e, d = e + 1 := ⟨d - 1, by omega⟩
  have hd : 37 ≤ e := by omega
  refine dX_of (mj := mj175) (lo := [some (.ref 0), none, none, none]) rfl (Nat.le_of_ble_eq_true rfl) rfl ?_
  unfold f_X7_not0
  refine y_aload_n (q := 1) rfl rfl rfl ?_
  refine y_bipush (x := 110) (q := 3) rfl (by decide) rfl ?_
  refine y_bipush (x := 111) (q := 5) rfl (by decide) rfl ?_
  refine y_bipush (x := 116) (q := 7) rfl (by decide) rfl ?_
  refine y_iconst (x := 0) (q := 8) rfl (by decide) rfl ?_
  refine y_iconst (x := 0) (q := 9) rfl (by decide) rfl ?_
  refine y_iconst (x := 0) (q := 10) rfl (by decide) rfl ?_
  refine y_iconst (x := 0) (q := 11) rfl (by decide) rfl ?_
  refine y_iconst (x := 0) (q := 12) rfl (by decide) rfl ?_
  refine y_callP (I := .invokevirtual 212) (idx := 212) (KD := 1) (J := 148) (mj := mj138) (as := [.ref 0, .int 110, .int 111, .int 116, .int 0, .int 0, .int 0, .int 0, .int 0]) (r := []) (q := 15) rfl (fun _ _ _ _ _ _ => rfl) rfl (by decide) rfl rfl rfl rfl rfl (Nat.le_of_ble_eq_true rfl) (d_recv atM0 (by decide) (by decide)) rfl (m_X7_isWord (Nat.le_trans (by decide) hd) 110 111 116 0 0 0 0 0 h) (fun r1 => ?_)
  refine y_eq0 (q := 52) (q' := 18) rfl rfl rfl rfl (fun c2 => ?_) (fun c3 => ?_)
  · skip
    refine y_aload_n (q := 53) rfl rfl rfl ?_
    refine y_callI (I := .invokevirtual 345) (idx := 345) (KD := 1) (J := 184) (mj := mj174) (as := [.ref 0]) (r := []) (q := 56) rfl (fun _ _ _ _ _ _ => rfl) rfl (by decide) rfl rfl rfl rfl rfl (Nat.le_of_ble_eq_true rfl) (d_recv atM0 (by decide) (by decide)) rfl (m_X7_added0 (Nat.le_trans (by decide) hd)  h) (fun r4 g5 => ?_)
    refine y_istore_n (lo' := [some (.ref 0), some (.int r4), none, none]) (q := 57) rfl (Nat.le_of_ble_eq_true rfl) rfl rfl ?_
    refine y_aload_n (q := 58) rfl rfl rfl ?_
    refine y_bipush (x := 60) (q := 60) rfl (by decide) rfl ?_
    refine y_callP (I := .invokevirtual 234) (idx := 234) (KD := 1) (J := 149) (mj := mj139) (as := [.ref 0, .int 60]) (r := []) (q := 63) rfl (fun _ _ _ _ _ _ => rfl) rfl (by decide) rfl rfl rfl rfl rfl (Nat.le_of_ble_eq_true rfl) (d_recv atM0 (by decide) (by decide)) rfl (m_X7_isSign (Nat.le_trans (by decide) hd) 60 g5) (fun r6 => ?_)
    refine y_ne0 (q := 77) (q' := 66) rfl rfl rfl rfl (fun c7 => ?_) (fun c8 => ?_)
    · skip
      refine y_aload_n (q := 67) rfl rfl rfl ?_
      refine y_bipush (x := 61) (q := 69) rfl (by decide) rfl ?_
      refine y_callP (I := .invokevirtual 234) (idx := 234) (KD := 1) (J := 149) (mj := mj139) (as := [.ref 0, .int 61]) (r := []) (q := 72) rfl (fun _ _ _ _ _ _ => rfl) rfl (by decide) rfl rfl rfl rfl rfl (Nat.le_of_ble_eq_true rfl) (d_recv atM0 (by decide) (by decide)) rfl (m_X7_isSign (Nat.le_trans (by decide) hd) 61 g5) (fun r9 => ?_)
      refine y_ne0 (q := 77) (q' := 75) rfl rfl rfl rfl (fun c10 => ?_) (fun c11 => ?_)
      · skip
        refine y_iload_n (q := 76) rfl rfl rfl ?_
        exact y_retI rfl (by decide) rfl rfl
      · skip
        refine y_aload_n (q := 78) rfl rfl rfl ?_
        refine y_getL (q := 81) rfl rfl (by decide) atM0 rfl rfl ?_
        refine y_ldc2_w (u := 60) (q := 84) rfl rfl rfl ?_
        refine y_lcmp (q := 85) rfl rfl ?_
        refine y_ne0 (q := 92) (q' := 88) rfl rfl rfl rfl (fun c12 => ?_) (fun c13 => ?_)
        · skip
          refine y_iconst (x := 1) (q := 89) rfl (by decide) rfl ?_
          refine y_goto (q := 93) rfl rfl ?_
          refine y_istore_n (lo' := [some (.ref 0), some (.int r4), some (.int 1), none]) (q := 94) rfl (Nat.le_of_ble_eq_true rfl) rfl rfl ?_
          refine y_aload_n (q := 95) rfl rfl rfl ?_
          refine y_callV (I := .invokevirtual 209) (idx := 209) (KD := 1) (J := 145) (mj := mj135) (as := [.ref 0]) (r := []) (q := 98) rfl (fun _ _ _ _ _ _ => rfl) rfl (by decide) rfl rfl rfl rfl rfl (Nat.le_of_ble_eq_true rfl) (d_recv atM0 (by decide) (by decide)) rfl (m_X7_next (Nat.le_trans (by decide) hd)  g5) (fun g14 => ?_)
          refine y_aload_n (q := 99) rfl rfl rfl ?_
          refine y_callI (I := .invokevirtual 345) (idx := 345) (KD := 1) (J := 184) (mj := mj174) (as := [.ref 0]) (r := []) (q := 102) rfl (fun _ _ _ _ _ _ => rfl) rfl (by decide) rfl rfl rfl rfl rfl (Nat.le_of_ble_eq_true rfl) (d_recv atM0 (by decide) (by decide)) rfl (m_X7_added0 (Nat.le_trans (by decide) hd)  g14) (fun r15 g16 => ?_)
          refine y_istore_n (lo' := [some (.ref 0), some (.int r4), some (.int 1), some (.int r15)]) (q := 103) rfl (Nat.le_of_ble_eq_true rfl) rfl rfl ?_
          refine y_iload_n (q := 104) rfl rfl rfl ?_
          refine y_ifF (q := 107) rfl (by decide) rfl rfl ?_
          refine y_iload_n (q := 108) rfl rfl rfl ?_
          refine y_iload_n (q := 109) rfl rfl rfl ?_
          refine y_ge (q := 124) (q' := 112) rfl rfl rfl rfl rfl (fun c17 => ?_) (fun c18 => ?_)
          · skip
            refine y_goto (q := 120) rfl rfl ?_
            refine y_iconst (x := 1) (q := 121) rfl (by decide) rfl ?_
            refine y_goto (q := 125) rfl rfl ?_
            exact y_retI rfl (by decide) rfl rfl
          · skip
            refine y_iconst (x := 0) (q := 125) rfl (by decide) rfl ?_
            exact y_retI rfl (by decide) rfl rfl
        · skip
          refine y_iconst (x := 0) (q := 93) rfl (by decide) rfl ?_
          refine y_istore_n (lo' := [some (.ref 0), some (.int r4), some (.int 0), none]) (q := 94) rfl (Nat.le_of_ble_eq_true rfl) rfl rfl ?_
          refine y_aload_n (q := 95) rfl rfl rfl ?_
          refine y_callV (I := .invokevirtual 209) (idx := 209) (KD := 1) (J := 145) (mj := mj135) (as := [.ref 0]) (r := []) (q := 98) rfl (fun _ _ _ _ _ _ => rfl) rfl (by decide) rfl rfl rfl rfl rfl (Nat.le_of_ble_eq_true rfl) (d_recv atM0 (by decide) (by decide)) rfl (m_X7_next (Nat.le_trans (by decide) hd)  g5) (fun g19 => ?_)
          refine y_aload_n (q := 99) rfl rfl rfl ?_
          refine y_callI (I := .invokevirtual 345) (idx := 345) (KD := 1) (J := 184) (mj := mj174) (as := [.ref 0]) (r := []) (q := 102) rfl (fun _ _ _ _ _ _ => rfl) rfl (by decide) rfl rfl rfl rfl rfl (Nat.le_of_ble_eq_true rfl) (d_recv atM0 (by decide) (by decide)) rfl (m_X7_added0 (Nat.le_trans (by decide) hd)  g19) (fun r20 g21 => ?_)
          refine y_istore_n (lo' := [some (.ref 0), some (.int r4), some (.int 0), some (.int r20)]) (q := 103) rfl (Nat.le_of_ble_eq_true rfl) rfl rfl ?_
          refine y_iload_n (q := 104) rfl rfl rfl ?_
          refine y_ifT (q := 115) rfl (by decide) rfl ?_
          refine y_iload_n (q := 116) rfl rfl rfl ?_
          refine y_iload_n (q := 117) rfl rfl rfl ?_
          refine y_ne (q := 124) (q' := 120) rfl rfl rfl rfl rfl (fun c22 => ?_) (fun c23 => ?_)
          · skip
            refine y_iconst (x := 1) (q := 121) rfl (by decide) rfl ?_
            refine y_goto (q := 125) rfl rfl ?_
            exact y_retI rfl (by decide) rfl rfl
          · skip
            refine y_iconst (x := 0) (q := 125) rfl (by decide) rfl ?_
            exact y_retI rfl (by decide) rfl rfl
    · skip
      refine y_aload_n (q := 78) rfl rfl rfl ?_
      refine y_getL (q := 81) rfl rfl (by decide) atM0 rfl rfl ?_
      refine y_ldc2_w (u := 60) (q := 84) rfl rfl rfl ?_
      refine y_lcmp (q := 85) rfl rfl ?_
      refine y_ne0 (q := 92) (q' := 88) rfl rfl rfl rfl (fun c24 => ?_) (fun c25 => ?_)
      · skip
        refine y_iconst (x := 1) (q := 89) rfl (by decide) rfl ?_
        refine y_goto (q := 93) rfl rfl ?_
        refine y_istore_n (lo' := [some (.ref 0), some (.int r4), some (.int 1), none]) (q := 94) rfl (Nat.le_of_ble_eq_true rfl) rfl rfl ?_
        refine y_aload_n (q := 95) rfl rfl rfl ?_
        refine y_callV (I := .invokevirtual 209) (idx := 209) (KD := 1) (J := 145) (mj := mj135) (as := [.ref 0]) (r := []) (q := 98) rfl (fun _ _ _ _ _ _ => rfl) rfl (by decide) rfl rfl rfl rfl rfl (Nat.le_of_ble_eq_true rfl) (d_recv atM0 (by decide) (by decide)) rfl (m_X7_next (Nat.le_trans (by decide) hd)  g5) (fun g26 => ?_)
        refine y_aload_n (q := 99) rfl rfl rfl ?_
        refine y_callI (I := .invokevirtual 345) (idx := 345) (KD := 1) (J := 184) (mj := mj174) (as := [.ref 0]) (r := []) (q := 102) rfl (fun _ _ _ _ _ _ => rfl) rfl (by decide) rfl rfl rfl rfl rfl (Nat.le_of_ble_eq_true rfl) (d_recv atM0 (by decide) (by decide)) rfl (m_X7_added0 (Nat.le_trans (by decide) hd)  g26) (fun r27 g28 => ?_)
        refine y_istore_n (lo' := [some (.ref 0), some (.int r4), some (.int 1), some (.int r27)]) (q := 103) rfl (Nat.le_of_ble_eq_true rfl) rfl rfl ?_
        refine y_iload_n (q := 104) rfl rfl rfl ?_
        refine y_ifF (q := 107) rfl (by decide) rfl rfl ?_
        refine y_iload_n (q := 108) rfl rfl rfl ?_
        refine y_iload_n (q := 109) rfl rfl rfl ?_
        refine y_ge (q := 124) (q' := 112) rfl rfl rfl rfl rfl (fun c29 => ?_) (fun c30 => ?_)
        · skip
          refine y_goto (q := 120) rfl rfl ?_
          refine y_iconst (x := 1) (q := 121) rfl (by decide) rfl ?_
          refine y_goto (q := 125) rfl rfl ?_
          exact y_retI rfl (by decide) rfl rfl
        · skip
          refine y_iconst (x := 0) (q := 125) rfl (by decide) rfl ?_
          exact y_retI rfl (by decide) rfl rfl
      · skip
        refine y_iconst (x := 0) (q := 93) rfl (by decide) rfl ?_
        refine y_istore_n (lo' := [some (.ref 0), some (.int r4), some (.int 0), none]) (q := 94) rfl (Nat.le_of_ble_eq_true rfl) rfl rfl ?_
        refine y_aload_n (q := 95) rfl rfl rfl ?_
        refine y_callV (I := .invokevirtual 209) (idx := 209) (KD := 1) (J := 145) (mj := mj135) (as := [.ref 0]) (r := []) (q := 98) rfl (fun _ _ _ _ _ _ => rfl) rfl (by decide) rfl rfl rfl rfl rfl (Nat.le_of_ble_eq_true rfl) (d_recv atM0 (by decide) (by decide)) rfl (m_X7_next (Nat.le_trans (by decide) hd)  g5) (fun g31 => ?_)
        refine y_aload_n (q := 99) rfl rfl rfl ?_
        refine y_callI (I := .invokevirtual 345) (idx := 345) (KD := 1) (J := 184) (mj := mj174) (as := [.ref 0]) (r := []) (q := 102) rfl (fun _ _ _ _ _ _ => rfl) rfl (by decide) rfl rfl rfl rfl rfl (Nat.le_of_ble_eq_true rfl) (d_recv atM0 (by decide) (by decide)) rfl (m_X7_added0 (Nat.le_trans (by decide) hd)  g31) (fun r32 g33 => ?_)
        refine y_istore_n (lo' := [some (.ref 0), some (.int r4), some (.int 0), some (.int r32)]) (q := 103) rfl (Nat.le_of_ble_eq_true rfl) rfl rfl ?_
        refine y_iload_n (q := 104) rfl rfl rfl ?_
        refine y_ifT (q := 115) rfl (by decide) rfl ?_
        refine y_iload_n (q := 116) rfl rfl rfl ?_
        refine y_iload_n (q := 117) rfl rfl rfl ?_
        refine y_ne (q := 124) (q' := 120) rfl rfl rfl rfl rfl (fun c34 => ?_) (fun c35 => ?_)
        · skip
          refine y_iconst (x := 1) (q := 121) rfl (by decide) rfl ?_
          refine y_goto (q := 125) rfl rfl ?_
          exact y_retI rfl (by decide) rfl rfl
        · skip
          refine y_iconst (x := 0) (q := 125) rfl (by decide) rfl ?_
          exact y_retI rfl (by decide) rfl rfl
  · skip
    refine y_aload_n (q := 19) rfl rfl rfl ?_
    refine y_callI (I := .invokevirtual 237) (idx := 237) (KD := 1) (J := 150) (mj := mj140) (as := [.ref 0]) (r := []) (q := 22) rfl (fun _ _ _ _ _ _ => rfl) rfl (by decide) rfl rfl rfl rfl rfl (Nat.le_of_ble_eq_true rfl) (d_recv atM0 (by decide) (by decide)) rfl (m_X7_opens (Nat.le_trans (by decide) hd)  h) (fun r36 g37 => ?_)
    refine y_ne0 (q := 27) (q' := 25) rfl rfl rfl rfl (fun c38 => ?_) (fun c39 => ?_)
    · skip
      refine y_iconst (x := 0) (q := 26) rfl (by decide) rfl ?_
      exact y_retI rfl (by decide) rfl rfl
    · skip
      refine y_aload_n (q := 28) rfl rfl rfl ?_
      refine y_callI (I := .invokevirtual 330) (idx := 330) (KD := 1) (J := 179) (mj := mj169) (as := [.ref 0]) (r := []) (q := 31) rfl (fun _ _ _ _ _ _ => rfl) rfl (by decide) rfl rfl rfl rfl rfl (Nat.le_of_ble_eq_true rfl) (d_recv atM0 (by decide) (by decide)) rfl (m_X7_not1 (Nat.le_trans (by decide) hd)  g37) (fun r40 g41 => ?_)
      refine y_istore_n (lo' := [some (.ref 0), some (.int r40), none, none]) (q := 32) rfl (Nat.le_of_ble_eq_true rfl) rfl rfl ?_
      refine y_aload_n (q := 33) rfl rfl rfl ?_
      refine y_dup (q := 34) rfl rfl ?_
      refine y_getI (q := 37) rfl rfl (by decide) atM0 rfl rfl ?_
      refine y_iconst (x := 1) (q := 38) rfl (by decide) rfl ?_
      refine y_isub (q := 39) rfl rfl ?_
      refine y_putI (q := 42) rfl rfl (by decide) atM0 rfl rfl rfl rfl (fun g42 => ?_)
      refine y_iload_n (q := 43) rfl rfl rfl ?_
      refine y_ne0 (q := 50) (q' := 46) rfl rfl rfl rfl (fun c43 => ?_) (fun c44 => ?_)
      · skip
        refine y_iconst (x := 1) (q := 47) rfl (by decide) rfl ?_
        refine y_goto (q := 51) rfl rfl ?_
        exact y_retI rfl (by decide) rfl rfl
      · skip
        refine y_iconst (x := 0) (q := 51) rfl (by decide) rfl ?_
        exact y_retI rfl (by decide) rfl rfl
def l_X7_both0_5  (k : Int32 → dH → Option (Int32 × dH)) : Nat → Int32 → dH → Option (Int32 × dH)
  | 0, _, _ => none
  | n + 1, v1, h => oP (f_X7_isWord 97 110 100 0 0 0 0 0 h) (fun r3 => if r3.toInt = 0 then (k v1 h) else (oV (f_X7_next  h) (fun g6 => oI (f_X7_not0  g6) (fun r7 g8 => if v1.toInt = 0 then (l_X7_both0_5  k n 0 g8) else (if r7.toInt = 0 then (l_X7_both0_5  k n 0 g8) else (l_X7_both0_5  k n 1 g8))))))
theorem lz_X7_both0_5 {d : Nat} (hd : 38 ≤ d)  (k : Int32 → dH → Option (Int32 × dH)) (hk : ∀ (v1 : Int32) (z2 : Option Value) (h : dH), dY shM d mj176 dI (k v1 h) 49 [some (.ref 0), some (.int v1), z2] [] h) : ∀ (n : Nat) (v1 : Int32) (h : dH) (z2 : Option Value), dY shM d mj176 dI (l_X7_both0_5  k n v1 h) 5 [some (.ref 0), some (.int v1), z2] [] h
  | 0, _, _, _ => dY_none
  | n + 1, v1, h, z2 => by
    rw [l_X7_both0_5]
    refine y_aload_n (q := 6) rfl rfl rfl ?_
    refine y_bipush (x := 97) (q := 8) rfl (by decide) rfl ?_
    refine y_bipush (x := 110) (q := 10) rfl (by decide) rfl ?_
    refine y_bipush (x := 100) (q := 12) rfl (by decide) rfl ?_
    refine y_iconst (x := 0) (q := 13) rfl (by decide) rfl ?_
    refine y_iconst (x := 0) (q := 14) rfl (by decide) rfl ?_
    refine y_iconst (x := 0) (q := 15) rfl (by decide) rfl ?_
    refine y_iconst (x := 0) (q := 16) rfl (by decide) rfl ?_
    refine y_iconst (x := 0) (q := 17) rfl (by decide) rfl ?_
    refine y_callP (I := .invokevirtual 212) (idx := 212) (KD := 1) (J := 148) (mj := mj138) (as := [.ref 0, .int 97, .int 110, .int 100, .int 0, .int 0, .int 0, .int 0, .int 0]) (r := []) (q := 20) rfl (fun _ _ _ _ _ _ => rfl) rfl (by decide) rfl rfl rfl rfl rfl (Nat.le_of_ble_eq_true rfl) (d_recv atM0 (by decide) (by decide)) rfl (m_X7_isWord (Nat.le_trans (by decide) hd) 97 110 100 0 0 0 0 0 h) (fun r3 => ?_)
    refine y_eq0 (q := 49) (q' := 23) rfl rfl rfl rfl (fun c4 => ?_) (fun c5 => ?_)
    · skip
      exact hk v1 (z2) h
    · skip
      refine y_aload_n (q := 24) rfl rfl rfl ?_
      refine y_callV (I := .invokevirtual 209) (idx := 209) (KD := 1) (J := 145) (mj := mj135) (as := [.ref 0]) (r := []) (q := 27) rfl (fun _ _ _ _ _ _ => rfl) rfl (by decide) rfl rfl rfl rfl rfl (Nat.le_of_ble_eq_true rfl) (d_recv atM0 (by decide) (by decide)) rfl (m_X7_next (Nat.le_trans (by decide) hd)  h) (fun g6 => ?_)
      refine y_aload_n (q := 28) rfl rfl rfl ?_
      refine y_callI (I := .invokevirtual 348) (idx := 348) (KD := 1) (J := 185) (mj := mj175) (as := [.ref 0]) (r := []) (q := 31) rfl (fun _ _ _ _ _ _ => rfl) rfl (by decide) rfl rfl rfl rfl rfl (Nat.le_of_ble_eq_true rfl) (d_recv atM0 (by decide) (by decide)) rfl (m_X7_not0 (Nat.le_trans (by decide) hd)  g6) (fun r7 g8 => ?_)
      refine y_istore_n (lo' := [some (.ref 0), some (.int v1), some (.int r7)]) (q := 32) rfl (Nat.le_of_ble_eq_true rfl) rfl rfl ?_
      refine y_iload_n (q := 33) rfl rfl rfl ?_
      refine y_eq0 (q := 44) (q' := 36) rfl rfl rfl rfl (fun c9 => ?_) (fun c10 => ?_)
      · skip
        refine y_iconst (x := 0) (q := 45) rfl (by decide) rfl ?_
        refine y_istore_n (lo' := [some (.ref 0), some (.int 0), some (.int r7)]) (q := 46) rfl (Nat.le_of_ble_eq_true rfl) rfl rfl ?_
        refine y_goto (q := 5) rfl rfl ?_
        exact lz_X7_both0_5 hd  k hk n 0 g8 (some (.int r7))
      · skip
        refine y_iload_n (q := 37) rfl rfl rfl ?_
        refine y_eq0 (q := 44) (q' := 40) rfl rfl rfl rfl (fun c11 => ?_) (fun c12 => ?_)
        · skip
          refine y_iconst (x := 0) (q := 45) rfl (by decide) rfl ?_
          refine y_istore_n (lo' := [some (.ref 0), some (.int 0), some (.int r7)]) (q := 46) rfl (Nat.le_of_ble_eq_true rfl) rfl rfl ?_
          refine y_goto (q := 5) rfl rfl ?_
          exact lz_X7_both0_5 hd  k hk n 0 g8 (some (.int r7))
        · skip
          refine y_iconst (x := 1) (q := 41) rfl (by decide) rfl ?_
          refine y_goto (q := 45) rfl rfl ?_
          refine y_istore_n (lo' := [some (.ref 0), some (.int 1), some (.int r7)]) (q := 46) rfl (Nat.le_of_ble_eq_true rfl) rfl rfl ?_
          refine y_goto (q := 5) rfl rfl ?_
          exact lz_X7_both0_5 hd  k hk n 1 g8 (some (.int r7))
def f_X7_both0  (h : dH) : Option (Int32 × dH) := oI (f_X7_not0  h) (fun r1 g2 => l_X7_both0_5   (fun v1_13 g15 => some (v1_13, g15)) fuel0 r1 g2)
theorem m_X7_both0 {d : Nat} (hd : 39 ≤ d)  (h : dH) : dX shM d 176 [.ref 0] dI (f_X7_both0  h) h := by
  obtain ⟨e, rfl⟩ : ∃ e, d = e + 1 := ⟨d - 1, by omega⟩
  have hd : 38 ≤ e := by omega
  refine dX_of (mj := mj176) (lo := [some (.ref 0), none, none]) rfl (Nat.le_of_ble_eq_true rfl) rfl ?_
  unfold f_X7_both0
  refine y_aload_n (q := 1) rfl rfl rfl ?_
  refine y_callI (I := .invokevirtual 348) (idx := 348) (KD := 1) (J := 185) (mj := mj175) (as := [.ref 0]) (r := []) (q := 4) rfl (fun _ _ _ _ _ _ => rfl) rfl (by decide) rfl rfl rfl rfl rfl (Nat.le_of_ble_eq_true rfl) (d_recv atM0 (by decide) (by decide)) rfl (m_X7_not0 (Nat.le_trans (by decide) hd)  h) (fun r1 g2 => ?_)
  refine y_istore_n (lo' := [some (.ref 0), some (.int r1), none]) (q := 5) rfl (Nat.le_of_ble_eq_true rfl) rfl rfl ?_
  refine lz_X7_both0_5 hd   _ (fun v1_13 z14 g15 => ?_) fuel0 r1 g2 (none)
  refine y_iload_n (q := 50) rfl rfl rfl ?_
  exact y_retI rfl (by decide) rfl rfl
def l_X7_either0_5  (k : Int32 → dH → Option (Int32 × dH)) : Nat → Int32 → dH → Option (Int32 × dH)
  | 0, _, _ => none
  | n + 1, v1, h => oP (f_X7_isWord 111 114 0 0 0 0 0 0 h) (fun r3 => if r3.toInt = 0 then (k v1 h) else (oV (f_X7_next  h) (fun g6 => oI (f_X7_both0  g6) (fun r7 g8 => if v1.toInt = 0 then (if r7.toInt = 0 then (l_X7_either0_5  k n 0 g8) else (l_X7_either0_5  k n 1 g8)) else (l_X7_either0_5  k n 1 g8)))))
theorem lz_X7_either0_5 {d : Nat} (hd : 39 ≤ d)  (k : Int32 → dH → Option (Int32 × dH)) (hk : ∀ (v1 : Int32) (z2 : Option Value) (h : dH), dY shM d mj177 dI (k v1 h) 48 [some (.ref 0), some (.int v1), z2] [] h) : ∀ (n : Nat) (v1 : Int32) (h : dH) (z2 : Option Value), dY shM d mj177 dI (l_X7_either0_5  k n v1 h) 5 [some (.ref 0), some (.int v1), z2] [] h
  | 0, _, _, _ => dY_none
  | n + 1, v1, h, z2 => by
    rw [l_X7_either0_5]
    refine y_aload_n (q := 6) rfl rfl rfl ?_
    refine y_bipush (x := 111) (q := 8) rfl (by decide) rfl ?_
    refine y_bipush (x := 114) (q := 10) rfl (by decide) rfl ?_
    refine y_iconst (x := 0) (q := 11) rfl (by decide) rfl ?_
    refine y_iconst (x := 0) (q := 12) rfl (by decide) rfl ?_
    refine y_iconst (x := 0) (q := 13) rfl (by decide) rfl ?_
    refine y_iconst (x := 0) (q := 14) rfl (by decide) rfl ?_
    refine y_iconst (x := 0) (q := 15) rfl (by decide) rfl ?_
    refine y_iconst (x := 0) (q := 16) rfl (by decide) rfl ?_
    refine y_callP (I := .invokevirtual 212) (idx := 212) (KD := 1) (J := 148) (mj := mj138) (as := [.ref 0, .int 111, .int 114, .int 0, .int 0, .int 0, .int 0, .int 0, .int 0]) (r := []) (q := 19) rfl (fun _ _ _ _ _ _ => rfl) rfl (by decide) rfl rfl rfl rfl rfl (Nat.le_of_ble_eq_true rfl) (d_recv atM0 (by decide) (by decide)) rfl (m_X7_isWord (Nat.le_trans (by decide) hd) 111 114 0 0 0 0 0 0 h) (fun r3 => ?_)
    refine y_eq0 (q := 48) (q' := 22) rfl rfl rfl rfl (fun c4 => ?_) (fun c5 => ?_)
    · skip
      exact hk v1 (z2) h
    · skip
      refine y_aload_n (q := 23) rfl rfl rfl ?_
      refine y_callV (I := .invokevirtual 209) (idx := 209) (KD := 1) (J := 145) (mj := mj135) (as := [.ref 0]) (r := []) (q := 26) rfl (fun _ _ _ _ _ _ => rfl) rfl (by decide) rfl rfl rfl rfl rfl (Nat.le_of_ble_eq_true rfl) (d_recv atM0 (by decide) (by decide)) rfl (m_X7_next (Nat.le_trans (by decide) hd)  h) (fun g6 => ?_)
      refine y_aload_n (q := 27) rfl rfl rfl ?_
      refine y_callI (I := .invokevirtual 351) (idx := 351) (KD := 1) (J := 186) (mj := mj176) (as := [.ref 0]) (r := []) (q := 30) rfl (fun _ _ _ _ _ _ => rfl) rfl (by decide) rfl rfl rfl rfl rfl (Nat.le_of_ble_eq_true rfl) (d_recv atM0 (by decide) (by decide)) rfl (m_X7_both0 (Nat.le_trans (by decide) hd)  g6) (fun r7 g8 => ?_)
      refine y_istore_n (lo' := [some (.ref 0), some (.int v1), some (.int r7)]) (q := 31) rfl (Nat.le_of_ble_eq_true rfl) rfl rfl ?_
      refine y_iload_n (q := 32) rfl rfl rfl ?_
      refine y_ne0 (q := 39) (q' := 35) rfl rfl rfl rfl (fun c9 => ?_) (fun c10 => ?_)
      · skip
        refine y_iload_n (q := 36) rfl rfl rfl ?_
        refine y_eq0 (q := 43) (q' := 39) rfl rfl rfl rfl (fun c11 => ?_) (fun c12 => ?_)
        · skip
          refine y_iconst (x := 0) (q := 44) rfl (by decide) rfl ?_
          refine y_istore_n (lo' := [some (.ref 0), some (.int 0), some (.int r7)]) (q := 45) rfl (Nat.le_of_ble_eq_true rfl) rfl rfl ?_
          refine y_goto (q := 5) rfl rfl ?_
          exact lz_X7_either0_5 hd  k hk n 0 g8 (some (.int r7))
        · skip
          refine y_iconst (x := 1) (q := 40) rfl (by decide) rfl ?_
          refine y_goto (q := 44) rfl rfl ?_
          refine y_istore_n (lo' := [some (.ref 0), some (.int 1), some (.int r7)]) (q := 45) rfl (Nat.le_of_ble_eq_true rfl) rfl rfl ?_
          refine y_goto (q := 5) rfl rfl ?_
          exact lz_X7_either0_5 hd  k hk n 1 g8 (some (.int r7))
      · skip
        refine y_iconst (x := 1) (q := 40) rfl (by decide) rfl ?_
        refine y_goto (q := 44) rfl rfl ?_
        refine y_istore_n (lo' := [some (.ref 0), some (.int 1), some (.int r7)]) (q := 45) rfl (Nat.le_of_ble_eq_true rfl) rfl rfl ?_
        refine y_goto (q := 5) rfl rfl ?_
        exact lz_X7_either0_5 hd  k hk n 1 g8 (some (.int r7))
def f_X7_either0  (h : dH) : Option (Int32 × dH) := oI (f_X7_both0  h) (fun r1 g2 => l_X7_either0_5   (fun v1_13 g15 => some (v1_13, g15)) fuel0 r1 g2)
theorem m_X7_either0 {d : Nat} (hd : 40 ≤ d)  (h : dH) : dX shM d 177 [.ref 0] dI (f_X7_either0  h) h := by
  obtain ⟨e, rfl⟩ : ∃ e, d = e + 1 := ⟨d - 1, by omega⟩
  have hd : 39 ≤ e := by omega
  refine dX_of (mj := mj177) (lo := [some (.ref 0), none, none]) rfl (Nat.le_of_ble_eq_true rfl) rfl ?_
  unfold f_X7_either0
  refine y_aload_n (q := 1) rfl rfl rfl ?_
  refine y_callI (I := .invokevirtual 351) (idx := 351) (KD := 1) (J := 186) (mj := mj176) (as := [.ref 0]) (r := []) (q := 4) rfl (fun _ _ _ _ _ _ => rfl) rfl (by decide) rfl rfl rfl rfl rfl (Nat.le_of_ble_eq_true rfl) (d_recv atM0 (by decide) (by decide)) rfl (m_X7_both0 (Nat.le_trans (by decide) hd)  h) (fun r1 g2 => ?_)
  refine y_istore_n (lo' := [some (.ref 0), some (.int r1), none]) (q := 5) rfl (Nat.le_of_ble_eq_true rfl) rfl rfl ?_
  refine lz_X7_either0_5 hd   _ (fun v1_13 z14 g15 => ?_) fuel0 r1 g2 (none)
  refine y_iload_n (q := 49) rfl rfl rfl ?_
  exact y_retI rfl (by decide) rfl rfl
def f_X7_part (v1 : Int32) (h : dH) : Option (Int32 × dH) := if v1.toInt = 0 then (oV (f_X7_fail  h) (fun g3 => if (g3 0 27).toInt = 0 then (oV (f_X7_next  g3) (fun g6 => if (g6 0 27).toInt = 0 then (oI (f_X7_either0  g6) (fun r9 g10 => oP (f_X7_isSign 59 g10) (fun r11 => if r11.toInt = 0 then (oV (f_X7_fail  g10) (fun g14 => if (g14 0 27).toInt = 0 then (oV (f_X7_next  g14) (fun g17 => some (r9, g17))) else (some (r9, g14)))) else (if (g10 0 27).toInt = 0 then (oV (f_X7_next  g10) (fun g20 => some (r9, g20))) else (some (r9, g10)))))) else (oP (f_X7_isSign 59 g6) (fun r21 => if r21.toInt = 0 then (oV (f_X7_fail  g6) (fun g24 => if (g24 0 27).toInt = 0 then (oV (f_X7_next  g24) (fun g27 => some (0, g27))) else (some (0, g24)))) else (if (g6 0 27).toInt = 0 then (oV (f_X7_next  g6) (fun g30 => some (0, g30))) else (some (0, g6))))))) else (if (g3 0 27).toInt = 0 then (oI (f_X7_either0  g3) (fun r33 g34 => oP (f_X7_isSign 59 g34) (fun r35 => if r35.toInt = 0 then (oV (f_X7_fail  g34) (fun g38 => if (g38 0 27).toInt = 0 then (oV (f_X7_next  g38) (fun g41 => some (r33, g41))) else (some (r33, g38)))) else (if (g34 0 27).toInt = 0 then (oV (f_X7_next  g34) (fun g44 => some (r33, g44))) else (some (r33, g34)))))) else (oP (f_X7_isSign 59 g3) (fun r45 => if r45.toInt = 0 then (oV (f_X7_fail  g3) (fun g48 => if (g48 0 27).toInt = 0 then (oV (f_X7_next  g48) (fun g51 => some (0, g51))) else (some (0, g48)))) else (if (g3 0 27).toInt = 0 then (oV (f_X7_next  g3) (fun g54 => some (0, g54))) else (some (0, g3)))))))) else (if (h 0 27).toInt = 0 then (oV (f_X7_next  h) (fun g57 => if (g57 0 27).toInt = 0 then (oI (f_X7_either0  g57) (fun r60 g61 => oP (f_X7_isSign 59 g61) (fun r62 => if r62.toInt = 0 then (oV (f_X7_fail  g61) (fun g65 => if (g65 0 27).toInt = 0 then (oV (f_X7_next  g65) (fun g68 => some (r60, g68))) else (some (r60, g65)))) else (if (g61 0 27).toInt = 0 then (oV (f_X7_next  g61) (fun g71 => some (r60, g71))) else (some (r60, g61)))))) else (oP (f_X7_isSign 59 g57) (fun r72 => if r72.toInt = 0 then (oV (f_X7_fail  g57) (fun g75 => if (g75 0 27).toInt = 0 then (oV (f_X7_next  g75) (fun g78 => some (0, g78))) else (some (0, g75)))) else (if (g57 0 27).toInt = 0 then (oV (f_X7_next  g57) (fun g81 => some (0, g81))) else (some (0, g57))))))) else (if (h 0 27).toInt = 0 then (oI (f_X7_either0  h) (fun r84 g85 => oP (f_X7_isSign 59 g85) (fun r86 => if r86.toInt = 0 then (oV (f_X7_fail  g85) (fun g89 => if (g89 0 27).toInt = 0 then (oV (f_X7_next  g89) (fun g92 => some (r84, g92))) else (some (r84, g89)))) else (if (g85 0 27).toInt = 0 then (oV (f_X7_next  g85) (fun g95 => some (r84, g95))) else (some (r84, g85)))))) else (oP (f_X7_isSign 59 h) (fun r96 => if r96.toInt = 0 then (oV (f_X7_fail  h) (fun g99 => if (g99 0 27).toInt = 0 then (oV (f_X7_next  g99) (fun g102 => some (0, g102))) else (some (0, g99)))) else (if (h 0 27).toInt = 0 then (oV (f_X7_next  h) (fun g105 => some (0, g105))) else (some (0, h)))))))
theorem m_X7_part {d : Nat} (hd : 41 ≤ d) (v1 : Int32) (h : dH) : dX shM d 178 [.ref 0, .int v1] dI (f_X7_part v1 h) h := by
  obtain ⟨e, rfl⟩ : ∃ e, d = e + 1 := ⟨d - 1, by omega⟩
  have hd : 40 ≤ e := by omega
  refine dX_of (mj := mj178) (lo := [some (.ref 0), some (.int v1), none]) rfl (Nat.le_of_ble_eq_true rfl) rfl ?_
  unfold f_X7_part
  refine y_iload_n (q := 1) rfl rfl rfl ?_
  refine y_ne0 (q := 8) (q' := 4) rfl rfl rfl rfl (fun c1 => ?_) (fun c2 => ?_)
  · skip
    refine y_aload_n (q := 5) rfl rfl rfl ?_
    refine y_callV (I := .invokevirtual 206) (idx := 206) (KD := 1) (J := 146) (mj := mj136) (as := [.ref 0]) (r := []) (q := 8) rfl (fun _ _ _ _ _ _ => rfl) rfl (by decide) rfl rfl rfl rfl rfl (Nat.le_of_ble_eq_true rfl) (d_recv atM0 (by decide) (by decide)) rfl (m_X7_fail (Nat.le_trans (by decide) hd)  h) (fun g3 => ?_)
    refine y_aload_n (q := 9) rfl rfl rfl ?_
    refine y_getI (q := 12) rfl rfl (by decide) atM0 rfl rfl ?_
    refine y_ne0 (q := 19) (q' := 15) rfl rfl rfl rfl (fun c4 => ?_) (fun c5 => ?_)
    · skip
      refine y_aload_n (q := 16) rfl rfl rfl ?_
      refine y_callV (I := .invokevirtual 209) (idx := 209) (KD := 1) (J := 145) (mj := mj135) (as := [.ref 0]) (r := []) (q := 19) rfl (fun _ _ _ _ _ _ => rfl) rfl (by decide) rfl rfl rfl rfl rfl (Nat.le_of_ble_eq_true rfl) (d_recv atM0 (by decide) (by decide)) rfl (m_X7_next (Nat.le_trans (by decide) hd)  g3) (fun g6 => ?_)
      refine y_aload_n (q := 20) rfl rfl rfl ?_
      refine y_getI (q := 23) rfl rfl (by decide) atM0 rfl rfl ?_
      refine y_eq0 (q := 30) (q' := 26) rfl rfl rfl rfl (fun c7 => ?_) (fun c8 => ?_)
      · skip
        refine y_aload_n (q := 31) rfl rfl rfl ?_
        refine y_callI (I := .invokevirtual 354) (idx := 354) (KD := 1) (J := 187) (mj := mj177) (as := [.ref 0]) (r := []) (q := 34) rfl (fun _ _ _ _ _ _ => rfl) rfl (by decide) rfl rfl rfl rfl rfl (Nat.le_of_ble_eq_true rfl) (d_recv atM0 (by decide) (by decide)) rfl (m_X7_either0 (Nat.le_trans (by decide) hd)  g6) (fun r9 g10 => ?_)
        refine y_istore_n (lo' := [some (.ref 0), some (.int v1), some (.int r9)]) (q := 35) rfl (Nat.le_of_ble_eq_true rfl) rfl rfl ?_
        refine y_aload_n (q := 36) rfl rfl rfl ?_
        refine y_bipush (x := 59) (q := 38) rfl (by decide) rfl ?_
        refine y_callP (I := .invokevirtual 234) (idx := 234) (KD := 1) (J := 149) (mj := mj139) (as := [.ref 0, .int 59]) (r := []) (q := 41) rfl (fun _ _ _ _ _ _ => rfl) rfl (by decide) rfl rfl rfl rfl rfl (Nat.le_of_ble_eq_true rfl) (d_recv atM0 (by decide) (by decide)) rfl (m_X7_isSign (Nat.le_trans (by decide) hd) 59 g10) (fun r11 => ?_)
        refine y_ne0 (q := 48) (q' := 44) rfl rfl rfl rfl (fun c12 => ?_) (fun c13 => ?_)
        · skip
          refine y_aload_n (q := 45) rfl rfl rfl ?_
          refine y_callV (I := .invokevirtual 206) (idx := 206) (KD := 1) (J := 146) (mj := mj136) (as := [.ref 0]) (r := []) (q := 48) rfl (fun _ _ _ _ _ _ => rfl) rfl (by decide) rfl rfl rfl rfl rfl (Nat.le_of_ble_eq_true rfl) (d_recv atM0 (by decide) (by decide)) rfl (m_X7_fail (Nat.le_trans (by decide) hd)  g10) (fun g14 => ?_)
          refine y_aload_n (q := 49) rfl rfl rfl ?_
          refine y_getI (q := 52) rfl rfl (by decide) atM0 rfl rfl ?_
          refine y_ne0 (q := 59) (q' := 55) rfl rfl rfl rfl (fun c15 => ?_) (fun c16 => ?_)
          · skip
            refine y_aload_n (q := 56) rfl rfl rfl ?_
            refine y_callV (I := .invokevirtual 209) (idx := 209) (KD := 1) (J := 145) (mj := mj135) (as := [.ref 0]) (r := []) (q := 59) rfl (fun _ _ _ _ _ _ => rfl) rfl (by decide) rfl rfl rfl rfl rfl (Nat.le_of_ble_eq_true rfl) (d_recv atM0 (by decide) (by decide)) rfl (m_X7_next (Nat.le_trans (by decide) hd)  g14) (fun g17 => ?_)
            refine y_iload_n (q := 60) rfl rfl rfl ?_
            exact y_retI rfl (by decide) rfl rfl
          · skip
            refine y_iload_n (q := 60) rfl rfl rfl ?_
            exact y_retI rfl (by decide) rfl rfl
        · skip
          refine y_aload_n (q := 49) rfl rfl rfl ?_
          refine y_getI (q := 52) rfl rfl (by decide) atM0 rfl rfl ?_
          refine y_ne0 (q := 59) (q' := 55) rfl rfl rfl rfl (fun c18 => ?_) (fun c19 => ?_)
          · skip
            refine y_aload_n (q := 56) rfl rfl rfl ?_
            refine y_callV (I := .invokevirtual 209) (idx := 209) (KD := 1) (J := 145) (mj := mj135) (as := [.ref 0]) (r := []) (q := 59) rfl (fun _ _ _ _ _ _ => rfl) rfl (by decide) rfl rfl rfl rfl rfl (Nat.le_of_ble_eq_true rfl) (d_recv atM0 (by decide) (by decide)) rfl (m_X7_next (Nat.le_trans (by decide) hd)  g10) (fun g20 => ?_)
            refine y_iload_n (q := 60) rfl rfl rfl ?_
            exact y_retI rfl (by decide) rfl rfl
          · skip
            refine y_iload_n (q := 60) rfl rfl rfl ?_
            exact y_retI rfl (by decide) rfl rfl
      · skip
        refine y_iconst (x := 0) (q := 27) rfl (by decide) rfl ?_
        refine y_goto (q := 34) rfl rfl ?_
        refine y_istore_n (lo' := [some (.ref 0), some (.int v1), some (.int 0)]) (q := 35) rfl (Nat.le_of_ble_eq_true rfl) rfl rfl ?_
        refine y_aload_n (q := 36) rfl rfl rfl ?_
        refine y_bipush (x := 59) (q := 38) rfl (by decide) rfl ?_
        refine y_callP (I := .invokevirtual 234) (idx := 234) (KD := 1) (J := 149) (mj := mj139) (as := [.ref 0, .int 59]) (r := []) (q := 41) rfl (fun _ _ _ _ _ _ => rfl) rfl (by decide) rfl rfl rfl rfl rfl (Nat.le_of_ble_eq_true rfl) (d_recv atM0 (by decide) (by decide)) rfl (m_X7_isSign (Nat.le_trans (by decide) hd) 59 g6) (fun r21 => ?_)
        refine y_ne0 (q := 48) (q' := 44) rfl rfl rfl rfl (fun c22 => ?_) (fun c23 => ?_)
        · skip
          refine y_aload_n (q := 45) rfl rfl rfl ?_
          refine y_callV (I := .invokevirtual 206) (idx := 206) (KD := 1) (J := 146) (mj := mj136) (as := [.ref 0]) (r := []) (q := 48) rfl (fun _ _ _ _ _ _ => rfl) rfl (by decide) rfl rfl rfl rfl rfl (Nat.le_of_ble_eq_true rfl) (d_recv atM0 (by decide) (by decide)) rfl (m_X7_fail (Nat.le_trans (by decide) hd)  g6) (fun g24 => ?_)
          refine y_aload_n (q := 49) rfl rfl rfl ?_
          refine y_getI (q := 52) rfl rfl (by decide) atM0 rfl rfl ?_
          refine y_ne0 (q := 59) (q' := 55) rfl rfl rfl rfl (fun c25 => ?_) (fun c26 => ?_)
          · skip
            refine y_aload_n (q := 56) rfl rfl rfl ?_
            refine y_callV (I := .invokevirtual 209) (idx := 209) (KD := 1) (J := 145) (mj := mj135) (as := [.ref 0]) (r := []) (q := 59) rfl (fun _ _ _ _ _ _ => rfl) rfl (by decide) rfl rfl rfl rfl rfl (Nat.le_of_ble_eq_true rfl) (d_recv atM0 (by decide) (by decide)) rfl (m_X7_next (Nat.le_trans (by decide) hd)  g24) (fun g27 => ?_)
            refine y_iload_n (q := 60) rfl rfl rfl ?_
            exact y_retI rfl (by decide) rfl rfl
          · skip
            refine y_iload_n (q := 60) rfl rfl rfl ?_
            exact y_retI rfl (by decide) rfl rfl
        · skip
          refine y_aload_n (q := 49) rfl rfl rfl ?_
          refine y_getI (q := 52) rfl rfl (by decide) atM0 rfl rfl ?_
          refine y_ne0 (q := 59) (q' := 55) rfl rfl rfl rfl (fun c28 => ?_) (fun c29 => ?_)
          · skip
            refine y_aload_n (q := 56) rfl rfl rfl ?_
            refine y_callV (I := .invokevirtual 209) (idx := 209) (KD := 1) (J := 145) (mj := mj135) (as := [.ref 0]) (r := []) (q := 59) rfl (fun _ _ _ _ _ _ => rfl) rfl (by decide) rfl rfl rfl rfl rfl (Nat.le_of_ble_eq_true rfl) (d_recv atM0 (by decide) (by decide)) rfl (m_X7_next (Nat.le_trans (by decide) hd)  g6) (fun g30 => ?_)
            refine y_iload_n (q := 60) rfl rfl rfl ?_
            exact y_retI rfl (by decide) rfl rfl
          · skip
            refine y_iload_n (q := 60) rfl rfl rfl ?_
            exact y_retI rfl (by decide) rfl rfl
    · skip
      refine y_aload_n (q := 20) rfl rfl rfl ?_
      refine y_getI (q := 23) rfl rfl (by decide) atM0 rfl rfl ?_
      refine y_eq0 (q := 30) (q' := 26) rfl rfl rfl rfl (fun c31 => ?_) (fun c32 => ?_)
      · skip
        refine y_aload_n (q := 31) rfl rfl rfl ?_
        refine y_callI (I := .invokevirtual 354) (idx := 354) (KD := 1) (J := 187) (mj := mj177) (as := [.ref 0]) (r := []) (q := 34) rfl (fun _ _ _ _ _ _ => rfl) rfl (by decide) rfl rfl rfl rfl rfl (Nat.le_of_ble_eq_true rfl) (d_recv atM0 (by decide) (by decide)) rfl (m_X7_either0 (Nat.le_trans (by decide) hd)  g3) (fun r33 g34 => ?_)
        refine y_istore_n (lo' := [some (.ref 0), some (.int v1), some (.int r33)]) (q := 35) rfl (Nat.le_of_ble_eq_true rfl) rfl rfl ?_
        refine y_aload_n (q := 36) rfl rfl rfl ?_
        refine y_bipush (x := 59) (q := 38) rfl (by decide) rfl ?_
        refine y_callP (I := .invokevirtual 234) (idx := 234) (KD := 1) (J := 149) (mj := mj139) (as := [.ref 0, .int 59]) (r := []) (q := 41) rfl (fun _ _ _ _ _ _ => rfl) rfl (by decide) rfl rfl rfl rfl rfl (Nat.le_of_ble_eq_true rfl) (d_recv atM0 (by decide) (by decide)) rfl (m_X7_isSign (Nat.le_trans (by decide) hd) 59 g34) (fun r35 => ?_)
        refine y_ne0 (q := 48) (q' := 44) rfl rfl rfl rfl (fun c36 => ?_) (fun c37 => ?_)
        · skip
          refine y_aload_n (q := 45) rfl rfl rfl ?_
          refine y_callV (I := .invokevirtual 206) (idx := 206) (KD := 1) (J := 146) (mj := mj136) (as := [.ref 0]) (r := []) (q := 48) rfl (fun _ _ _ _ _ _ => rfl) rfl (by decide) rfl rfl rfl rfl rfl (Nat.le_of_ble_eq_true rfl) (d_recv atM0 (by decide) (by decide)) rfl (m_X7_fail (Nat.le_trans (by decide) hd)  g34) (fun g38 => ?_)
          refine y_aload_n (q := 49) rfl rfl rfl ?_
          refine y_getI (q := 52) rfl rfl (by decide) atM0 rfl rfl ?_
          refine y_ne0 (q := 59) (q' := 55) rfl rfl rfl rfl (fun c39 => ?_) (fun c40 => ?_)
          · skip
            refine y_aload_n (q := 56) rfl rfl rfl ?_
            refine y_callV (I := .invokevirtual 209) (idx := 209) (KD := 1) (J := 145) (mj := mj135) (as := [.ref 0]) (r := []) (q := 59) rfl (fun _ _ _ _ _ _ => rfl) rfl (by decide) rfl rfl rfl rfl rfl (Nat.le_of_ble_eq_true rfl) (d_recv atM0 (by decide) (by decide)) rfl (m_X7_next (Nat.le_trans (by decide) hd)  g38) (fun g41 => ?_)
            refine y_iload_n (q := 60) rfl rfl rfl ?_
            exact y_retI rfl (by decide) rfl rfl
          · skip
            refine y_iload_n (q := 60) rfl rfl rfl ?_
            exact y_retI rfl (by decide) rfl rfl
        · skip
          refine y_aload_n (q := 49) rfl rfl rfl ?_
          refine y_getI (q := 52) rfl rfl (by decide) atM0 rfl rfl ?_
          refine y_ne0 (q := 59) (q' := 55) rfl rfl rfl rfl (fun c42 => ?_) (fun c43 => ?_)
          · skip
            refine y_aload_n (q := 56) rfl rfl rfl ?_
            refine y_callV (I := .invokevirtual 209) (idx := 209) (KD := 1) (J := 145) (mj := mj135) (as := [.ref 0]) (r := []) (q := 59) rfl (fun _ _ _ _ _ _ => rfl) rfl (by decide) rfl rfl rfl rfl rfl (Nat.le_of_ble_eq_true rfl) (d_recv atM0 (by decide) (by decide)) rfl (m_X7_next (Nat.le_trans (by decide) hd)  g34) (fun g44 => ?_)
            refine y_iload_n (q := 60) rfl rfl rfl ?_
            exact y_retI rfl (by decide) rfl rfl
          · skip
            refine y_iload_n (q := 60) rfl rfl rfl ?_
            exact y_retI rfl (by decide) rfl rfl
      · skip
        refine y_iconst (x := 0) (q := 27) rfl (by decide) rfl ?_
        refine y_goto (q := 34) rfl rfl ?_
        refine y_istore_n (lo' := [some (.ref 0), some (.int v1), some (.int 0)]) (q := 35) rfl (Nat.le_of_ble_eq_true rfl) rfl rfl ?_
        refine y_aload_n (q := 36) rfl rfl rfl ?_
        refine y_bipush (x := 59) (q := 38) rfl (by decide) rfl ?_
        refine y_callP (I := .invokevirtual 234) (idx := 234) (KD := 1) (J := 149) (mj := mj139) (as := [.ref 0, .int 59]) (r := []) (q := 41) rfl (fun _ _ _ _ _ _ => rfl) rfl (by decide) rfl rfl rfl rfl rfl (Nat.le_of_ble_eq_true rfl) (d_recv atM0 (by decide) (by decide)) rfl (m_X7_isSign (Nat.le_trans (by decide) hd) 59 g3) (fun r45 => ?_)
        refine y_ne0 (q := 48) (q' := 44) rfl rfl rfl rfl (fun c46 => ?_) (fun c47 => ?_)
        · skip
          refine y_aload_n (q := 45) rfl rfl rfl ?_
          refine y_callV (I := .invokevirtual 206) (idx := 206) (KD := 1) (J := 146) (mj := mj136) (as := [.ref 0]) (r := []) (q := 48) rfl (fun _ _ _ _ _ _ => rfl) rfl (by decide) rfl rfl rfl rfl rfl (Nat.le_of_ble_eq_true rfl) (d_recv atM0 (by decide) (by decide)) rfl (m_X7_fail (Nat.le_trans (by decide) hd)  g3) (fun g48 => ?_)
          refine y_aload_n (q := 49) rfl rfl rfl ?_
          refine y_getI (q := 52) rfl rfl (by decide) atM0 rfl rfl ?_
          refine y_ne0 (q := 59) (q' := 55) rfl rfl rfl rfl (fun c49 => ?_) (fun c50 => ?_)
          · skip
            refine y_aload_n (q := 56) rfl rfl rfl ?_
            refine y_callV (I := .invokevirtual 209) (idx := 209) (KD := 1) (J := 145) (mj := mj135) (as := [.ref 0]) (r := []) (q := 59) rfl (fun _ _ _ _ _ _ => rfl) rfl (by decide) rfl rfl rfl rfl rfl (Nat.le_of_ble_eq_true rfl) (d_recv atM0 (by decide) (by decide)) rfl (m_X7_next (Nat.le_trans (by decide) hd)  g48) (fun g51 => ?_)
            refine y_iload_n (q := 60) rfl rfl rfl ?_
            exact y_retI rfl (by decide) rfl rfl
          · skip
            refine y_iload_n (q := 60) rfl rfl rfl ?_
            exact y_retI rfl (by decide) rfl rfl
        · skip
          refine y_aload_n (q := 49) rfl rfl rfl ?_
          refine y_getI (q := 52) rfl rfl (by decide) atM0 rfl rfl ?_
          refine y_ne0 (q := 59) (q' := 55) rfl rfl rfl rfl (fun c52 => ?_) (fun c53 => ?_)
          · skip
            refine y_aload_n (q := 56) rfl rfl rfl ?_
            refine y_callV (I := .invokevirtual 209) (idx := 209) (KD := 1) (J := 145) (mj := mj135) (as := [.ref 0]) (r := []) (q := 59) rfl (fun _ _ _ _ _ _ => rfl) rfl (by decide) rfl rfl rfl rfl rfl (Nat.le_of_ble_eq_true rfl) (d_recv atM0 (by decide) (by decide)) rfl (m_X7_next (Nat.le_trans (by decide) hd)  g3) (fun g54 => ?_)
            refine y_iload_n (q := 60) rfl rfl rfl ?_
            exact y_retI rfl (by decide) rfl rfl
          · skip
            refine y_iload_n (q := 60) rfl rfl rfl ?_
            exact y_retI rfl (by decide) rfl rfl
  · skip
    refine y_aload_n (q := 9) rfl rfl rfl ?_
    refine y_getI (q := 12) rfl rfl (by decide) atM0 rfl rfl ?_
    refine y_ne0 (q := 19) (q' := 15) rfl rfl rfl rfl (fun c55 => ?_) (fun c56 => ?_)
    · skip
      refine y_aload_n (q := 16) rfl rfl rfl ?_
      refine y_callV (I := .invokevirtual 209) (idx := 209) (KD := 1) (J := 145) (mj := mj135) (as := [.ref 0]) (r := []) (q := 19) rfl (fun _ _ _ _ _ _ => rfl) rfl (by decide) rfl rfl rfl rfl rfl (Nat.le_of_ble_eq_true rfl) (d_recv atM0 (by decide) (by decide)) rfl (m_X7_next (Nat.le_trans (by decide) hd)  h) (fun g57 => ?_)
      refine y_aload_n (q := 20) rfl rfl rfl ?_
      refine y_getI (q := 23) rfl rfl (by decide) atM0 rfl rfl ?_
      refine y_eq0 (q := 30) (q' := 26) rfl rfl rfl rfl (fun c58 => ?_) (fun c59 => ?_)
      · skip
        refine y_aload_n (q := 31) rfl rfl rfl ?_
        refine y_callI (I := .invokevirtual 354) (idx := 354) (KD := 1) (J := 187) (mj := mj177) (as := [.ref 0]) (r := []) (q := 34) rfl (fun _ _ _ _ _ _ => rfl) rfl (by decide) rfl rfl rfl rfl rfl (Nat.le_of_ble_eq_true rfl) (d_recv atM0 (by decide) (by decide)) rfl (m_X7_either0 (Nat.le_trans (by decide) hd)  g57) (fun r60 g61 => ?_)
        refine y_istore_n (lo' := [some (.ref 0), some (.int v1), some (.int r60)]) (q := 35) rfl (Nat.le_of_ble_eq_true rfl) rfl rfl ?_
        refine y_aload_n (q := 36) rfl rfl rfl ?_
        refine y_bipush (x := 59) (q := 38) rfl (by decide) rfl ?_
        refine y_callP (I := .invokevirtual 234) (idx := 234) (KD := 1) (J := 149) (mj := mj139) (as := [.ref 0, .int 59]) (r := []) (q := 41) rfl (fun _ _ _ _ _ _ => rfl) rfl (by decide) rfl rfl rfl rfl rfl (Nat.le_of_ble_eq_true rfl) (d_recv atM0 (by decide) (by decide)) rfl (m_X7_isSign (Nat.le_trans (by decide) hd) 59 g61) (fun r62 => ?_)
        refine y_ne0 (q := 48) (q' := 44) rfl rfl rfl rfl (fun c63 => ?_) (fun c64 => ?_)
        · skip
          refine y_aload_n (q := 45) rfl rfl rfl ?_
          refine y_callV (I := .invokevirtual 206) (idx := 206) (KD := 1) (J := 146) (mj := mj136) (as := [.ref 0]) (r := []) (q := 48) rfl (fun _ _ _ _ _ _ => rfl) rfl (by decide) rfl rfl rfl rfl rfl (Nat.le_of_ble_eq_true rfl) (d_recv atM0 (by decide) (by decide)) rfl (m_X7_fail (Nat.le_trans (by decide) hd)  g61) (fun g65 => ?_)
          refine y_aload_n (q := 49) rfl rfl rfl ?_
          refine y_getI (q := 52) rfl rfl (by decide) atM0 rfl rfl ?_
          refine y_ne0 (q := 59) (q' := 55) rfl rfl rfl rfl (fun c66 => ?_) (fun c67 => ?_)
          · skip
            refine y_aload_n (q := 56) rfl rfl rfl ?_
            refine y_callV (I := .invokevirtual 209) (idx := 209) (KD := 1) (J := 145) (mj := mj135) (as := [.ref 0]) (r := []) (q := 59) rfl (fun _ _ _ _ _ _ => rfl) rfl (by decide) rfl rfl rfl rfl rfl (Nat.le_of_ble_eq_true rfl) (d_recv atM0 (by decide) (by decide)) rfl (m_X7_next (Nat.le_trans (by decide) hd)  g65) (fun g68 => ?_)
            refine y_iload_n (q := 60) rfl rfl rfl ?_
            exact y_retI rfl (by decide) rfl rfl
          · skip
            refine y_iload_n (q := 60) rfl rfl rfl ?_
            exact y_retI rfl (by decide) rfl rfl
        · skip
          refine y_aload_n (q := 49) rfl rfl rfl ?_
          refine y_getI (q := 52) rfl rfl (by decide) atM0 rfl rfl ?_
          refine y_ne0 (q := 59) (q' := 55) rfl rfl rfl rfl (fun c69 => ?_) (fun c70 => ?_)
          · skip
            refine y_aload_n (q := 56) rfl rfl rfl ?_
            refine y_callV (I := .invokevirtual 209) (idx := 209) (KD := 1) (J := 145) (mj := mj135) (as := [.ref 0]) (r := []) (q := 59) rfl (fun _ _ _ _ _ _ => rfl) rfl (by decide) rfl rfl rfl rfl rfl (Nat.le_of_ble_eq_true rfl) (d_recv atM0 (by decide) (by decide)) rfl (m_X7_next (Nat.le_trans (by decide) hd)  g61) (fun g71 => ?_)
            refine y_iload_n (q := 60) rfl rfl rfl ?_
            exact y_retI rfl (by decide) rfl rfl
          · skip
            refine y_iload_n (q := 60) rfl rfl rfl ?_
            exact y_retI rfl (by decide) rfl rfl
      · skip
        refine y_iconst (x := 0) (q := 27) rfl (by decide) rfl ?_
        refine y_goto (q := 34) rfl rfl ?_
        refine y_istore_n (lo' := [some (.ref 0), some (.int v1), some (.int 0)]) (q := 35) rfl (Nat.le_of_ble_eq_true rfl) rfl rfl ?_
        refine y_aload_n (q := 36) rfl rfl rfl ?_
        refine y_bipush (x := 59) (q := 38) rfl (by decide) rfl ?_
        refine y_callP (I := .invokevirtual 234) (idx := 234) (KD := 1) (J := 149) (mj := mj139) (as := [.ref 0, .int 59]) (r := []) (q := 41) rfl (fun _ _ _ _ _ _ => rfl) rfl (by decide) rfl rfl rfl rfl rfl (Nat.le_of_ble_eq_true rfl) (d_recv atM0 (by decide) (by decide)) rfl (m_X7_isSign (Nat.le_trans (by decide) hd) 59 g57) (fun r72 => ?_)
        refine y_ne0 (q := 48) (q' := 44) rfl rfl rfl rfl (fun c73 => ?_) (fun c74 => ?_)
        · skip
          refine y_aload_n (q := 45) rfl rfl rfl ?_
          refine y_callV (I := .invokevirtual 206) (idx := 206) (KD := 1) (J := 146) (mj := mj136) (as := [.ref 0]) (r := []) (q := 48) rfl (fun _ _ _ _ _ _ => rfl) rfl (by decide) rfl rfl rfl rfl rfl (Nat.le_of_ble_eq_true rfl) (d_recv atM0 (by decide) (by decide)) rfl (m_X7_fail (Nat.le_trans (by decide) hd)  g57) (fun g75 => ?_)
          refine y_aload_n (q := 49) rfl rfl rfl ?_
          refine y_getI (q := 52) rfl rfl (by decide) atM0 rfl rfl ?_
          refine y_ne0 (q := 59) (q' := 55) rfl rfl rfl rfl (fun c76 => ?_) (fun c77 => ?_)
          · skip
            refine y_aload_n (q := 56) rfl rfl rfl ?_
            refine y_callV (I := .invokevirtual 209) (idx := 209) (KD := 1) (J := 145) (mj := mj135) (as := [.ref 0]) (r := []) (q := 59) rfl (fun _ _ _ _ _ _ => rfl) rfl (by decide) rfl rfl rfl rfl rfl (Nat.le_of_ble_eq_true rfl) (d_recv atM0 (by decide) (by decide)) rfl (m_X7_next (Nat.le_trans (by decide) hd)  g75) (fun g78 => ?_)
            refine y_iload_n (q := 60) rfl rfl rfl ?_
            exact y_retI rfl (by decide) rfl rfl
          · skip
            refine y_iload_n (q := 60) rfl rfl rfl ?_
            exact y_retI rfl (by decide) rfl rfl
        · skip
          refine y_aload_n (q := 49) rfl rfl rfl ?_
          refine y_getI (q := 52) rfl rfl (by decide) atM0 rfl rfl ?_
          refine y_ne0 (q := 59) (q' := 55) rfl rfl rfl rfl (fun c79 => ?_) (fun c80 => ?_)
          · skip
            refine y_aload_n (q := 56) rfl rfl rfl ?_
            refine y_callV (I := .invokevirtual 209) (idx := 209) (KD := 1) (J := 145) (mj := mj135) (as := [.ref 0]) (r := []) (q := 59) rfl (fun _ _ _ _ _ _ => rfl) rfl (by decide) rfl rfl rfl rfl rfl (Nat.le_of_ble_eq_true rfl) (d_recv atM0 (by decide) (by decide)) rfl (m_X7_next (Nat.le_trans (by decide) hd)  g57) (fun g81 => ?_)
            refine y_iload_n (q := 60) rfl rfl rfl ?_
            exact y_retI rfl (by decide) rfl rfl
          · skip
            refine y_iload_n (q := 60) rfl rfl rfl ?_
            exact y_retI rfl (by decide) rfl rfl
    · skip
      refine y_aload_n (q := 20) rfl rfl rfl ?_
      refine y_getI (q := 23) rfl rfl (by decide) atM0 rfl rfl ?_
      refine y_eq0 (q := 30) (q' := 26) rfl rfl rfl rfl (fun c82 => ?_) (fun c83 => ?_)
      · skip
        refine y_aload_n (q := 31) rfl rfl rfl ?_
        refine y_callI (I := .invokevirtual 354) (idx := 354) (KD := 1) (J := 187) (mj := mj177) (as := [.ref 0]) (r := []) (q := 34) rfl (fun _ _ _ _ _ _ => rfl) rfl (by decide) rfl rfl rfl rfl rfl (Nat.le_of_ble_eq_true rfl) (d_recv atM0 (by decide) (by decide)) rfl (m_X7_either0 (Nat.le_trans (by decide) hd)  h) (fun r84 g85 => ?_)
        refine y_istore_n (lo' := [some (.ref 0), some (.int v1), some (.int r84)]) (q := 35) rfl (Nat.le_of_ble_eq_true rfl) rfl rfl ?_
        refine y_aload_n (q := 36) rfl rfl rfl ?_
        refine y_bipush (x := 59) (q := 38) rfl (by decide) rfl ?_
        refine y_callP (I := .invokevirtual 234) (idx := 234) (KD := 1) (J := 149) (mj := mj139) (as := [.ref 0, .int 59]) (r := []) (q := 41) rfl (fun _ _ _ _ _ _ => rfl) rfl (by decide) rfl rfl rfl rfl rfl (Nat.le_of_ble_eq_true rfl) (d_recv atM0 (by decide) (by decide)) rfl (m_X7_isSign (Nat.le_trans (by decide) hd) 59 g85) (fun r86 => ?_)
        refine y_ne0 (q := 48) (q' := 44) rfl rfl rfl rfl (fun c87 => ?_) (fun c88 => ?_)
        · skip
          refine y_aload_n (q := 45) rfl rfl rfl ?_
          refine y_callV (I := .invokevirtual 206) (idx := 206) (KD := 1) (J := 146) (mj := mj136) (as := [.ref 0]) (r := []) (q := 48) rfl (fun _ _ _ _ _ _ => rfl) rfl (by decide) rfl rfl rfl rfl rfl (Nat.le_of_ble_eq_true rfl) (d_recv atM0 (by decide) (by decide)) rfl (m_X7_fail (Nat.le_trans (by decide) hd)  g85) (fun g89 => ?_)
          refine y_aload_n (q := 49) rfl rfl rfl ?_
          refine y_getI (q := 52) rfl rfl (by decide) atM0 rfl rfl ?_
          refine y_ne0 (q := 59) (q' := 55) rfl rfl rfl rfl (fun c90 => ?_) (fun c91 => ?_)
          · skip
            refine y_aload_n (q := 56) rfl rfl rfl ?_
            refine y_callV (I := .invokevirtual 209) (idx := 209) (KD := 1) (J := 145) (mj := mj135) (as := [.ref 0]) (r := []) (q := 59) rfl (fun _ _ _ _ _ _ => rfl) rfl (by decide) rfl rfl rfl rfl rfl (Nat.le_of_ble_eq_true rfl) (d_recv atM0 (by decide) (by decide)) rfl (m_X7_next (Nat.le_trans (by decide) hd)  g89) (fun g92 => ?_)
            refine y_iload_n (q := 60) rfl rfl rfl ?_
            exact y_retI rfl (by decide) rfl rfl
          · skip
            refine y_iload_n (q := 60) rfl rfl rfl ?_
            exact y_retI rfl (by decide) rfl rfl
        · skip
          refine y_aload_n (q := 49) rfl rfl rfl ?_
          refine y_getI (q := 52) rfl rfl (by decide) atM0 rfl rfl ?_
          refine y_ne0 (q := 59) (q' := 55) rfl rfl rfl rfl (fun c93 => ?_) (fun c94 => ?_)
          · skip
            refine y_aload_n (q := 56) rfl rfl rfl ?_
            refine y_callV (I := .invokevirtual 209) (idx := 209) (KD := 1) (J := 145) (mj := mj135) (as := [.ref 0]) (r := []) (q := 59) rfl (fun _ _ _ _ _ _ => rfl) rfl (by decide) rfl rfl rfl rfl rfl (Nat.le_of_ble_eq_true rfl) (d_recv atM0 (by decide) (by decide)) rfl (m_X7_next (Nat.le_trans (by decide) hd)  g85) (fun g95 => ?_)
            refine y_iload_n (q := 60) rfl rfl rfl ?_
            exact y_retI rfl (by decide) rfl rfl
          · skip
            refine y_iload_n (q := 60) rfl rfl rfl ?_
            exact y_retI rfl (by decide) rfl rfl
      · skip
        refine y_iconst (x := 0) (q := 27) rfl (by decide) rfl ?_
        refine y_goto (q := 34) rfl rfl ?_
        refine y_istore_n (lo' := [some (.ref 0), some (.int v1), some (.int 0)]) (q := 35) rfl (Nat.le_of_ble_eq_true rfl) rfl rfl ?_
        refine y_aload_n (q := 36) rfl rfl rfl ?_
        refine y_bipush (x := 59) (q := 38) rfl (by decide) rfl ?_
        refine y_callP (I := .invokevirtual 234) (idx := 234) (KD := 1) (J := 149) (mj := mj139) (as := [.ref 0, .int 59]) (r := []) (q := 41) rfl (fun _ _ _ _ _ _ => rfl) rfl (by decide) rfl rfl rfl rfl rfl (Nat.le_of_ble_eq_true rfl) (d_recv atM0 (by decide) (by decide)) rfl (m_X7_isSign (Nat.le_trans (by decide) hd) 59 h) (fun r96 => ?_)
        refine y_ne0 (q := 48) (q' := 44) rfl rfl rfl rfl (fun c97 => ?_) (fun c98 => ?_)
        · skip
          refine y_aload_n (q := 45) rfl rfl rfl ?_
          refine y_callV (I := .invokevirtual 206) (idx := 206) (KD := 1) (J := 146) (mj := mj136) (as := [.ref 0]) (r := []) (q := 48) rfl (fun _ _ _ _ _ _ => rfl) rfl (by decide) rfl rfl rfl rfl rfl (Nat.le_of_ble_eq_true rfl) (d_recv atM0 (by decide) (by decide)) rfl (m_X7_fail (Nat.le_trans (by decide) hd)  h) (fun g99 => ?_)
          refine y_aload_n (q := 49) rfl rfl rfl ?_
          refine y_getI (q := 52) rfl rfl (by decide) atM0 rfl rfl ?_
          refine y_ne0 (q := 59) (q' := 55) rfl rfl rfl rfl (fun c100 => ?_) (fun c101 => ?_)
          · skip
            refine y_aload_n (q := 56) rfl rfl rfl ?_
            refine y_callV (I := .invokevirtual 209) (idx := 209) (KD := 1) (J := 145) (mj := mj135) (as := [.ref 0]) (r := []) (q := 59) rfl (fun _ _ _ _ _ _ => rfl) rfl (by decide) rfl rfl rfl rfl rfl (Nat.le_of_ble_eq_true rfl) (d_recv atM0 (by decide) (by decide)) rfl (m_X7_next (Nat.le_trans (by decide) hd)  g99) (fun g102 => ?_)
            refine y_iload_n (q := 60) rfl rfl rfl ?_
            exact y_retI rfl (by decide) rfl rfl
          · skip
            refine y_iload_n (q := 60) rfl rfl rfl ?_
            exact y_retI rfl (by decide) rfl rfl
        · skip
          refine y_aload_n (q := 49) rfl rfl rfl ?_
          refine y_getI (q := 52) rfl rfl (by decide) atM0 rfl rfl ?_
          refine y_ne0 (q := 59) (q' := 55) rfl rfl rfl rfl (fun c103 => ?_) (fun c104 => ?_)
          · skip
            refine y_aload_n (q := 56) rfl rfl rfl ?_
            refine y_callV (I := .invokevirtual 209) (idx := 209) (KD := 1) (J := 145) (mj := mj135) (as := [.ref 0]) (r := []) (q := 59) rfl (fun _ _ _ _ _ _ => rfl) rfl (by decide) rfl rfl rfl rfl rfl (Nat.le_of_ble_eq_true rfl) (d_recv atM0 (by decide) (by decide)) rfl (m_X7_next (Nat.le_trans (by decide) hd)  h) (fun g105 => ?_)
            refine y_iload_n (q := 60) rfl rfl rfl ?_
            exact y_retI rfl (by decide) rfl rfl
          · skip
            refine y_iload_n (q := 60) rfl rfl rfl ?_
            exact y_retI rfl (by decide) rfl rfl
def f_X7_read (v1 : Int32) (v2 : Int32) (h : dH) : Option (Int32 × dH) := oH (dU h 0 20 (160 * v1)) (fun g1 => if 0 ≤ v1.toInt ∧ v1.toInt < 6 then (oH (dU g1 0 21 (g1 2 (v1.toInt.toNat))) (fun g3 => oH (dU g3 0 22 0) (fun g4 => oH (dU g4 0 26 0) (fun g5 => oH (dU g5 0 27 0) (fun g6 => oV (f_X7_next  g6) (fun g7 => oP (f_X7_isWord 109 101 101 116 115 0 0 0 g7) (fun r8 => oI (f_X7_part r8 g7) (fun r9 g10 => if (g10 0 27).toInt = 0 then (oP (f_X7_isWord 102 97 100 101 115 0 0 0 g10) (fun r13 => oI (f_X7_part r13 g10) (fun r14 g15 => if (g15 0 27).toInt = 0 then (oP (f_X7_isWord 115 111 117 110 100 115 0 0 g15) (fun r18 => oI (f_X7_part r18 g15) (fun r19 g20 => if (g20 0 27).toInt = 0 then (if (g20 0 23).toInt = 0 then (if v2.toInt = 0 then (some (r9, g20)) else (if v2.toInt = 1 then (some (r14, g20)) else (some (r19, g20)))) else (oV (f_X7_fail  g20) (fun g29 => if v2.toInt = 0 then (some (r9, g29)) else (if v2.toInt = 1 then (some (r14, g29)) else (some (r19, g29)))))) else (if v2.toInt = 0 then (some (r9, g20)) else (if v2.toInt = 1 then (some (r14, g20)) else (some (r19, g20))))))) else (if (g15 0 27).toInt = 0 then (if (g15 0 23).toInt = 0 then (if v2.toInt = 0 then (some (r9, g15)) else (if v2.toInt = 1 then (some (r14, g15)) else (some (0, g15)))) else (oV (f_X7_fail  g15) (fun g46 => if v2.toInt = 0 then (some (r9, g46)) else (if v2.toInt = 1 then (some (r14, g46)) else (some (0, g46)))))) else (if v2.toInt = 0 then (some (r9, g15)) else (if v2.toInt = 1 then (some (r14, g15)) else (some (0, g15)))))))) else (if (g10 0 27).toInt = 0 then (oP (f_X7_isWord 115 111 117 110 100 115 0 0 g10) (fun r57 => oI (f_X7_part r57 g10) (fun r58 g59 => if (g59 0 27).toInt = 0 then (if (g59 0 23).toInt = 0 then (if v2.toInt = 0 then (some (r9, g59)) else (if v2.toInt = 1 then (some (0, g59)) else (some (r58, g59)))) else (oV (f_X7_fail  g59) (fun g68 => if v2.toInt = 0 then (some (r9, g68)) else (if v2.toInt = 1 then (some (0, g68)) else (some (r58, g68)))))) else (if v2.toInt = 0 then (some (r9, g59)) else (if v2.toInt = 1 then (some (0, g59)) else (some (r58, g59))))))) else (if (g10 0 27).toInt = 0 then (if (g10 0 23).toInt = 0 then (if v2.toInt = 0 then (some (r9, g10)) else (if v2.toInt = 1 then (some (0, g10)) else (some (0, g10)))) else (oV (f_X7_fail  g10) (fun g85 => if v2.toInt = 0 then (some (r9, g85)) else (if v2.toInt = 1 then (some (0, g85)) else (some (0, g85)))))) else (if v2.toInt = 0 then (some (r9, g10)) else (if v2.toInt = 1 then (some (0, g10)) else (some (0, g10)))))))))))))) else none)
theorem m_X7_read {d : Nat} (hd : 42 ≤ d) (v1 : Int32) (v2 : Int32) (h : dH) : dX shM d 179 [.ref 0, .int v1, .int v2] dI (f_X7_read v1 v2 h) h := by
  obtain ⟨e, rfl⟩ : ∃ e, d = e + 1 := ⟨d - 1, by omega⟩
  have hd : 41 ≤ e := by omega
  refine dX_of (mj := mj179) (lo := [some (.ref 0), some (.int v1), some (.int v2), none, none, none]) rfl (Nat.le_of_ble_eq_true rfl) rfl ?_
  unfold f_X7_read
  refine y_aload_n (q := 1) rfl rfl rfl ?_
  refine y_sipush (x := 160) (q := 4) rfl (by decide) rfl ?_
  refine y_iload_n (q := 5) rfl rfl rfl ?_
  refine y_imul (q := 6) rfl rfl ?_
  refine y_putI (q := 9) rfl rfl (by decide) atM0 rfl rfl rfl rfl (fun g1 => ?_)
  refine y_aload_n (q := 10) rfl rfl rfl ?_
  refine y_aload_n (q := 11) rfl rfl rfl ?_
  refine y_getR (b := 2) (q := 14) rfl rfl (by decide) atM0 rfl rfl ?_
  refine y_iload_n (q := 15) rfl rfl rfl ?_
  refine y_guard (fun c2 => ?_)
  refine y_iald (n := 6) (N := 6) (X := v1.toInt) (K := v1.toInt.toNat) (q := 16) hbM rfl atM2 rfl rfl c2 rfl rfl ?_
  refine y_putI (q := 19) rfl rfl (by decide) atM0 rfl rfl rfl rfl (fun g3 => ?_)
  refine y_aload_n (q := 20) rfl rfl rfl ?_
  refine y_iconst (x := 0) (q := 21) rfl (by decide) rfl ?_
  refine y_putI (q := 24) rfl rfl (by decide) atM0 rfl rfl rfl rfl (fun g4 => ?_)
  refine y_aload_n (q := 25) rfl rfl rfl ?_
  refine y_iconst (x := 0) (q := 26) rfl (by decide) rfl ?_
  refine y_putI (q := 29) rfl rfl (by decide) atM0 rfl rfl rfl rfl (fun g5 => ?_)
  refine y_aload_n (q := 30) rfl rfl rfl ?_
  refine y_iconst (x := 0) (q := 31) rfl (by decide) rfl ?_
  refine y_putI (q := 34) rfl rfl (by decide) atM0 rfl rfl rfl rfl (fun g6 => ?_)
  refine y_aload_n (q := 35) rfl rfl rfl ?_
  refine y_callV (I := .invokevirtual 209) (idx := 209) (KD := 1) (J := 145) (mj := mj135) (as := [.ref 0]) (r := []) (q := 38) rfl (fun _ _ _ _ _ _ => rfl) rfl (by decide) rfl rfl rfl rfl rfl (Nat.le_of_ble_eq_true rfl) (d_recv atM0 (by decide) (by decide)) rfl (m_X7_next (Nat.le_trans (by decide) hd)  g6) (fun g7 => ?_)
  refine y_aload_n (q := 39) rfl rfl rfl ?_
  refine y_aload_n (q := 40) rfl rfl rfl ?_
  refine y_bipush (x := 109) (q := 42) rfl (by decide) rfl ?_
  refine y_bipush (x := 101) (q := 44) rfl (by decide) rfl ?_
  refine y_bipush (x := 101) (q := 46) rfl (by decide) rfl ?_
  refine y_bipush (x := 116) (q := 48) rfl (by decide) rfl ?_
  refine y_bipush (x := 115) (q := 50) rfl (by decide) rfl ?_
  refine y_iconst (x := 0) (q := 51) rfl (by decide) rfl ?_
  refine y_iconst (x := 0) (q := 52) rfl (by decide) rfl ?_
  refine y_iconst (x := 0) (q := 53) rfl (by decide) rfl ?_
  refine y_callP (I := .invokevirtual 212) (idx := 212) (KD := 1) (J := 148) (mj := mj138) (as := [.ref 0, .int 109, .int 101, .int 101, .int 116, .int 115, .int 0, .int 0, .int 0]) (r := [.ref 0]) (q := 56) rfl (fun _ _ _ _ _ _ => rfl) rfl (by decide) rfl rfl rfl rfl rfl (Nat.le_of_ble_eq_true rfl) (d_recv atM0 (by decide) (by decide)) rfl (m_X7_isWord (Nat.le_trans (by decide) hd) 109 101 101 116 115 0 0 0 g7) (fun r8 => ?_)
  refine y_callI (I := .invokevirtual 357) (idx := 357) (KD := 1) (J := 188) (mj := mj178) (as := [.ref 0, .int r8]) (r := []) (q := 59) rfl (fun _ _ _ _ _ _ => rfl) rfl (by decide) rfl rfl rfl rfl rfl (Nat.le_of_ble_eq_true rfl) (d_recv atM0 (by decide) (by decide)) rfl (m_X7_part (Nat.le_trans (by decide) hd) r8 g7) (fun r9 g10 => ?_)
  refine y_istore_n (lo' := [some (.ref 0), some (.int v1), some (.int v2), some (.int r9), none, none]) (q := 60) rfl (Nat.le_of_ble_eq_true rfl) rfl rfl ?_
  refine y_aload_n (q := 61) rfl rfl rfl ?_
  refine y_getI (q := 64) rfl rfl (by decide) atM0 rfl rfl ?_
  refine y_eq0 (q := 71) (q' := 67) rfl rfl rfl rfl (fun c11 => ?_) (fun c12 => ?_)
  · skip
    refine y_aload_n (q := 72) rfl rfl rfl ?_
    refine y_aload_n (q := 73) rfl rfl rfl ?_
    refine y_bipush (x := 102) (q := 75) rfl (by decide) rfl ?_
    refine y_bipush (x := 97) (q := 77) rfl (by decide) rfl ?_
    refine y_bipush (x := 100) (q := 79) rfl (by decide) rfl ?_
    refine y_bipush (x := 101) (q := 81) rfl (by decide) rfl ?_
    refine y_bipush (x := 115) (q := 83) rfl (by decide) rfl ?_
    refine y_iconst (x := 0) (q := 84) rfl (by decide) rfl ?_
    refine y_iconst (x := 0) (q := 85) rfl (by decide) rfl ?_
    refine y_iconst (x := 0) (q := 86) rfl (by decide) rfl ?_
    refine y_callP (I := .invokevirtual 212) (idx := 212) (KD := 1) (J := 148) (mj := mj138) (as := [.ref 0, .int 102, .int 97, .int 100, .int 101, .int 115, .int 0, .int 0, .int 0]) (r := [.ref 0]) (q := 89) rfl (fun _ _ _ _ _ _ => rfl) rfl (by decide) rfl rfl rfl rfl rfl (Nat.le_of_ble_eq_true rfl) (d_recv atM0 (by decide) (by decide)) rfl (m_X7_isWord (Nat.le_trans (by decide) hd) 102 97 100 101 115 0 0 0 g10) (fun r13 => ?_)
    refine y_callI (I := .invokevirtual 357) (idx := 357) (KD := 1) (J := 188) (mj := mj178) (as := [.ref 0, .int r13]) (r := []) (q := 92) rfl (fun _ _ _ _ _ _ => rfl) rfl (by decide) rfl rfl rfl rfl rfl (Nat.le_of_ble_eq_true rfl) (d_recv atM0 (by decide) (by decide)) rfl (m_X7_part (Nat.le_trans (by decide) hd) r13 g10) (fun r14 g15 => ?_)
    refine y_istore (lo' := [some (.ref 0), some (.int v1), some (.int v2), some (.int r9), some (.int r14), none]) (q := 94) rfl (Nat.le_of_ble_eq_true rfl) rfl rfl ?_
    refine y_aload_n (q := 95) rfl rfl rfl ?_
    refine y_getI (q := 98) rfl rfl (by decide) atM0 rfl rfl ?_
    refine y_eq0 (q := 105) (q' := 101) rfl rfl rfl rfl (fun c16 => ?_) (fun c17 => ?_)
    · skip
      refine y_aload_n (q := 106) rfl rfl rfl ?_
      refine y_aload_n (q := 107) rfl rfl rfl ?_
      refine y_bipush (x := 115) (q := 109) rfl (by decide) rfl ?_
      refine y_bipush (x := 111) (q := 111) rfl (by decide) rfl ?_
      refine y_bipush (x := 117) (q := 113) rfl (by decide) rfl ?_
      refine y_bipush (x := 110) (q := 115) rfl (by decide) rfl ?_
      refine y_bipush (x := 100) (q := 117) rfl (by decide) rfl ?_
      refine y_bipush (x := 115) (q := 119) rfl (by decide) rfl ?_
      refine y_iconst (x := 0) (q := 120) rfl (by decide) rfl ?_
      refine y_iconst (x := 0) (q := 121) rfl (by decide) rfl ?_
      refine y_callP (I := .invokevirtual 212) (idx := 212) (KD := 1) (J := 148) (mj := mj138) (as := [.ref 0, .int 115, .int 111, .int 117, .int 110, .int 100, .int 115, .int 0, .int 0]) (r := [.ref 0]) (q := 124) rfl (fun _ _ _ _ _ _ => rfl) rfl (by decide) rfl rfl rfl rfl rfl (Nat.le_of_ble_eq_true rfl) (d_recv atM0 (by decide) (by decide)) rfl (m_X7_isWord (Nat.le_trans (by decide) hd) 115 111 117 110 100 115 0 0 g15) (fun r18 => ?_)
      refine y_callI (I := .invokevirtual 357) (idx := 357) (KD := 1) (J := 188) (mj := mj178) (as := [.ref 0, .int r18]) (r := []) (q := 127) rfl (fun _ _ _ _ _ _ => rfl) rfl (by decide) rfl rfl rfl rfl rfl (Nat.le_of_ble_eq_true rfl) (d_recv atM0 (by decide) (by decide)) rfl (m_X7_part (Nat.le_trans (by decide) hd) r18 g15) (fun r19 g20 => ?_)
      refine y_istore (lo' := [some (.ref 0), some (.int v1), some (.int v2), some (.int r9), some (.int r14), some (.int r19)]) (q := 129) rfl (Nat.le_of_ble_eq_true rfl) rfl rfl ?_
      refine y_aload_n (q := 130) rfl rfl rfl ?_
      refine y_getI (q := 133) rfl rfl (by decide) atM0 rfl rfl ?_
      refine y_ne0 (q := 147) (q' := 136) rfl rfl rfl rfl (fun c21 => ?_) (fun c22 => ?_)
      · skip
        refine y_aload_n (q := 137) rfl rfl rfl ?_
        refine y_getI (q := 140) rfl rfl (by decide) atM0 rfl rfl ?_
        refine y_eq0 (q := 147) (q' := 143) rfl rfl rfl rfl (fun c23 => ?_) (fun c24 => ?_)
        · skip
          refine y_iload_n (q := 148) rfl rfl rfl ?_
          refine y_ne0 (q := 155) (q' := 151) rfl rfl rfl rfl (fun c25 => ?_) (fun c26 => ?_)
          · skip
            refine y_iload_n (q := 152) rfl rfl rfl ?_
            refine y_goto (q := 167) rfl rfl ?_
            exact y_retI rfl (by decide) rfl rfl
          · skip
            refine y_iload_n (q := 156) rfl rfl rfl ?_
            refine y_iconst (x := 1) (q := 157) rfl (by decide) rfl ?_
            refine y_ne (q := 165) (q' := 160) rfl rfl (by decide) rfl rfl (fun c27 => ?_) (fun c28 => ?_)
            · skip
              refine y_iload (q := 162) rfl rfl rfl ?_
              refine y_goto (q := 167) rfl rfl ?_
              exact y_retI rfl (by decide) rfl rfl
            · skip
              refine y_iload (q := 167) rfl rfl rfl ?_
              exact y_retI rfl (by decide) rfl rfl
        · skip
          refine y_aload_n (q := 144) rfl rfl rfl ?_
          refine y_callV (I := .invokevirtual 206) (idx := 206) (KD := 1) (J := 146) (mj := mj136) (as := [.ref 0]) (r := []) (q := 147) rfl (fun _ _ _ _ _ _ => rfl) rfl (by decide) rfl rfl rfl rfl rfl (Nat.le_of_ble_eq_true rfl) (d_recv atM0 (by decide) (by decide)) rfl (m_X7_fail (Nat.le_trans (by decide) hd)  g20) (fun g29 => ?_)
          refine y_iload_n (q := 148) rfl rfl rfl ?_
          refine y_ne0 (q := 155) (q' := 151) rfl rfl rfl rfl (fun c30 => ?_) (fun c31 => ?_)
          · skip
            refine y_iload_n (q := 152) rfl rfl rfl ?_
            refine y_goto (q := 167) rfl rfl ?_
            exact y_retI rfl (by decide) rfl rfl
          · skip
            refine y_iload_n (q := 156) rfl rfl rfl ?_
            refine y_iconst (x := 1) (q := 157) rfl (by decide) rfl ?_
            refine y_ne (q := 165) (q' := 160) rfl rfl (by decide) rfl rfl (fun c32 => ?_) (fun c33 => ?_)
            · skip
              refine y_iload (q := 162) rfl rfl rfl ?_
              refine y_goto (q := 167) rfl rfl ?_
              exact y_retI rfl (by decide) rfl rfl
            · skip
              refine y_iload (q := 167) rfl rfl rfl ?_
              exact y_retI rfl (by decide) rfl rfl
      · skip
        refine y_iload_n (q := 148) rfl rfl rfl ?_
        refine y_ne0 (q := 155) (q' := 151) rfl rfl rfl rfl (fun c34 => ?_) (fun c35 => ?_)
        · skip
          refine y_iload_n (q := 152) rfl rfl rfl ?_
          refine y_goto (q := 167) rfl rfl ?_
          exact y_retI rfl (by decide) rfl rfl
        · skip
          refine y_iload_n (q := 156) rfl rfl rfl ?_
          refine y_iconst (x := 1) (q := 157) rfl (by decide) rfl ?_
          refine y_ne (q := 165) (q' := 160) rfl rfl (by decide) rfl rfl (fun c36 => ?_) (fun c37 => ?_)
          · skip
            refine y_iload (q := 162) rfl rfl rfl ?_
            refine y_goto (q := 167) rfl rfl ?_
            exact y_retI rfl (by decide) rfl rfl
          · skip
            refine y_iload (q := 167) rfl rfl rfl ?_
            exact y_retI rfl (by decide) rfl rfl
    · skip
      refine y_iconst (x := 0) (q := 102) rfl (by decide) rfl ?_
      refine y_goto (q := 127) rfl rfl ?_
      refine y_istore (lo' := [some (.ref 0), some (.int v1), some (.int v2), some (.int r9), some (.int r14), some (.int 0)]) (q := 129) rfl (Nat.le_of_ble_eq_true rfl) rfl rfl ?_
      refine y_aload_n (q := 130) rfl rfl rfl ?_
      refine y_getI (q := 133) rfl rfl (by decide) atM0 rfl rfl ?_
      refine y_ne0 (q := 147) (q' := 136) rfl rfl rfl rfl (fun c38 => ?_) (fun c39 => ?_)
      · skip
        refine y_aload_n (q := 137) rfl rfl rfl ?_
        refine y_getI (q := 140) rfl rfl (by decide) atM0 rfl rfl ?_
        refine y_eq0 (q := 147) (q' := 143) rfl rfl rfl rfl (fun c40 => ?_) (fun c41 => ?_)
        · skip
          refine y_iload_n (q := 148) rfl rfl rfl ?_
          refine y_ne0 (q := 155) (q' := 151) rfl rfl rfl rfl (fun c42 => ?_) (fun c43 => ?_)
          · skip
            refine y_iload_n (q := 152) rfl rfl rfl ?_
            refine y_goto (q := 167) rfl rfl ?_
            exact y_retI rfl (by decide) rfl rfl
          · skip
            refine y_iload_n (q := 156) rfl rfl rfl ?_
            refine y_iconst (x := 1) (q := 157) rfl (by decide) rfl ?_
            refine y_ne (q := 165) (q' := 160) rfl rfl (by decide) rfl rfl (fun c44 => ?_) (fun c45 => ?_)
            · skip
              refine y_iload (q := 162) rfl rfl rfl ?_
              refine y_goto (q := 167) rfl rfl ?_
              exact y_retI rfl (by decide) rfl rfl
            · skip
              refine y_iload (q := 167) rfl rfl rfl ?_
              exact y_retI rfl (by decide) rfl rfl
        · skip
          refine y_aload_n (q := 144) rfl rfl rfl ?_
          refine y_callV (I := .invokevirtual 206) (idx := 206) (KD := 1) (J := 146) (mj := mj136) (as := [.ref 0]) (r := []) (q := 147) rfl (fun _ _ _ _ _ _ => rfl) rfl (by decide) rfl rfl rfl rfl rfl (Nat.le_of_ble_eq_true rfl) (d_recv atM0 (by decide) (by decide)) rfl (m_X7_fail (Nat.le_trans (by decide) hd)  g15) (fun g46 => ?_)
          refine y_iload_n (q := 148) rfl rfl rfl ?_
          refine y_ne0 (q := 155) (q' := 151) rfl rfl rfl rfl (fun c47 => ?_) (fun c48 => ?_)
          · skip
            refine y_iload_n (q := 152) rfl rfl rfl ?_
            refine y_goto (q := 167) rfl rfl ?_
            exact y_retI rfl (by decide) rfl rfl
          · skip
            refine y_iload_n (q := 156) rfl rfl rfl ?_
            refine y_iconst (x := 1) (q := 157) rfl (by decide) rfl ?_
            refine y_ne (q := 165) (q' := 160) rfl rfl (by decide) rfl rfl (fun c49 => ?_) (fun c50 => ?_)
            · skip
              refine y_iload (q := 162) rfl rfl rfl ?_
              refine y_goto (q := 167) rfl rfl ?_
              exact y_retI rfl (by decide) rfl rfl
            · skip
              refine y_iload (q := 167) rfl rfl rfl ?_
              exact y_retI rfl (by decide) rfl rfl
      · skip
        refine y_iload_n (q := 148) rfl rfl rfl ?_
        refine y_ne0 (q := 155) (q' := 151) rfl rfl rfl rfl (fun c51 => ?_) (fun c52 => ?_)
        · skip
          refine y_iload_n (q := 152) rfl rfl rfl ?_
          refine y_goto (q := 167) rfl rfl ?_
          exact y_retI rfl (by decide) rfl rfl
        · skip
          refine y_iload_n (q := 156) rfl rfl rfl ?_
          refine y_iconst (x := 1) (q := 157) rfl (by decide) rfl ?_
          refine y_ne (q := 165) (q' := 160) rfl rfl (by decide) rfl rfl (fun c53 => ?_) (fun c54 => ?_)
          · skip
            refine y_iload (q := 162) rfl rfl rfl ?_
            refine y_goto (q := 167) rfl rfl ?_
            exact y_retI rfl (by decide) rfl rfl
          · skip
            refine y_iload (q := 167) rfl rfl rfl ?_
            exact y_retI rfl (by decide) rfl rfl
  · skip
    refine y_iconst (x := 0) (q := 68) rfl (by decide) rfl ?_
    refine y_goto (q := 92) rfl rfl ?_
    refine y_istore (lo' := [some (.ref 0), some (.int v1), some (.int v2), some (.int r9), some (.int 0), none]) (q := 94) rfl (Nat.le_of_ble_eq_true rfl) rfl rfl ?_
    refine y_aload_n (q := 95) rfl rfl rfl ?_
    refine y_getI (q := 98) rfl rfl (by decide) atM0 rfl rfl ?_
    refine y_eq0 (q := 105) (q' := 101) rfl rfl rfl rfl (fun c55 => ?_) (fun c56 => ?_)
    · skip
      refine y_aload_n (q := 106) rfl rfl rfl ?_
      refine y_aload_n (q := 107) rfl rfl rfl ?_
      refine y_bipush (x := 115) (q := 109) rfl (by decide) rfl ?_
      refine y_bipush (x := 111) (q := 111) rfl (by decide) rfl ?_
      refine y_bipush (x := 117) (q := 113) rfl (by decide) rfl ?_
      refine y_bipush (x := 110) (q := 115) rfl (by decide) rfl ?_
      refine y_bipush (x := 100) (q := 117) rfl (by decide) rfl ?_
      refine y_bipush (x := 115) (q := 119) rfl (by decide) rfl ?_
      refine y_iconst (x := 0) (q := 120) rfl (by decide) rfl ?_
      refine y_iconst (x := 0) (q := 121) rfl (by decide) rfl ?_
      refine y_callP (I := .invokevirtual 212) (idx := 212) (KD := 1) (J := 148) (mj := mj138) (as := [.ref 0, .int 115, .int 111, .int 117, .int 110, .int 100, .int 115, .int 0, .int 0]) (r := [.ref 0]) (q := 124) rfl (fun _ _ _ _ _ _ => rfl) rfl (by decide) rfl rfl rfl rfl rfl (Nat.le_of_ble_eq_true rfl) (d_recv atM0 (by decide) (by decide)) rfl (m_X7_isWord (Nat.le_trans (by decide) hd) 115 111 117 110 100 115 0 0 g10) (fun r57 => ?_)
      refine y_callI (I := .invokevirtual 357) (idx := 357) (KD := 1) (J := 188) (mj := mj178) (as := [.ref 0, .int r57]) (r := []) (q := 127) rfl (fun _ _ _ _ _ _ => rfl) rfl (by decide) rfl rfl rfl rfl rfl (Nat.le_of_ble_eq_true rfl) (d_recv atM0 (by decide) (by decide)) rfl (m_X7_part (Nat.le_trans (by decide) hd) r57 g10) (fun r58 g59 => ?_)
      refine y_istore (lo' := [some (.ref 0), some (.int v1), some (.int v2), some (.int r9), some (.int 0), some (.int r58)]) (q := 129) rfl (Nat.le_of_ble_eq_true rfl) rfl rfl ?_
      refine y_aload_n (q := 130) rfl rfl rfl ?_
      refine y_getI (q := 133) rfl rfl (by decide) atM0 rfl rfl ?_
      refine y_ne0 (q := 147) (q' := 136) rfl rfl rfl rfl (fun c60 => ?_) (fun c61 => ?_)
      · skip
        refine y_aload_n (q := 137) rfl rfl rfl ?_
        refine y_getI (q := 140) rfl rfl (by decide) atM0 rfl rfl ?_
        refine y_eq0 (q := 147) (q' := 143) rfl rfl rfl rfl (fun c62 => ?_) (fun c63 => ?_)
        · skip
          refine y_iload_n (q := 148) rfl rfl rfl ?_
          refine y_ne0 (q := 155) (q' := 151) rfl rfl rfl rfl (fun c64 => ?_) (fun c65 => ?_)
          · skip
            refine y_iload_n (q := 152) rfl rfl rfl ?_
            refine y_goto (q := 167) rfl rfl ?_
            exact y_retI rfl (by decide) rfl rfl
          · skip
            refine y_iload_n (q := 156) rfl rfl rfl ?_
            refine y_iconst (x := 1) (q := 157) rfl (by decide) rfl ?_
            refine y_ne (q := 165) (q' := 160) rfl rfl (by decide) rfl rfl (fun c66 => ?_) (fun c67 => ?_)
            · skip
              refine y_iload (q := 162) rfl rfl rfl ?_
              refine y_goto (q := 167) rfl rfl ?_
              exact y_retI rfl (by decide) rfl rfl
            · skip
              refine y_iload (q := 167) rfl rfl rfl ?_
              exact y_retI rfl (by decide) rfl rfl
        · skip
          refine y_aload_n (q := 144) rfl rfl rfl ?_
          refine y_callV (I := .invokevirtual 206) (idx := 206) (KD := 1) (J := 146) (mj := mj136) (as := [.ref 0]) (r := []) (q := 147) rfl (fun _ _ _ _ _ _ => rfl) rfl (by decide) rfl rfl rfl rfl rfl (Nat.le_of_ble_eq_true rfl) (d_recv atM0 (by decide) (by decide)) rfl (m_X7_fail (Nat.le_trans (by decide) hd)  g59) (fun g68 => ?_)
          refine y_iload_n (q := 148) rfl rfl rfl ?_
          refine y_ne0 (q := 155) (q' := 151) rfl rfl rfl rfl (fun c69 => ?_) (fun c70 => ?_)
          · skip
            refine y_iload_n (q := 152) rfl rfl rfl ?_
            refine y_goto (q := 167) rfl rfl ?_
            exact y_retI rfl (by decide) rfl rfl
          · skip
            refine y_iload_n (q := 156) rfl rfl rfl ?_
            refine y_iconst (x := 1) (q := 157) rfl (by decide) rfl ?_
            refine y_ne (q := 165) (q' := 160) rfl rfl (by decide) rfl rfl (fun c71 => ?_) (fun c72 => ?_)
            · skip
              refine y_iload (q := 162) rfl rfl rfl ?_
              refine y_goto (q := 167) rfl rfl ?_
              exact y_retI rfl (by decide) rfl rfl
            · skip
              refine y_iload (q := 167) rfl rfl rfl ?_
              exact y_retI rfl (by decide) rfl rfl
      · skip
        refine y_iload_n (q := 148) rfl rfl rfl ?_
        refine y_ne0 (q := 155) (q' := 151) rfl rfl rfl rfl (fun c73 => ?_) (fun c74 => ?_)
        · skip
          refine y_iload_n (q := 152) rfl rfl rfl ?_
          refine y_goto (q := 167) rfl rfl ?_
          exact y_retI rfl (by decide) rfl rfl
        · skip
          refine y_iload_n (q := 156) rfl rfl rfl ?_
          refine y_iconst (x := 1) (q := 157) rfl (by decide) rfl ?_
          refine y_ne (q := 165) (q' := 160) rfl rfl (by decide) rfl rfl (fun c75 => ?_) (fun c76 => ?_)
          · skip
            refine y_iload (q := 162) rfl rfl rfl ?_
            refine y_goto (q := 167) rfl rfl ?_
            exact y_retI rfl (by decide) rfl rfl
          · skip
            refine y_iload (q := 167) rfl rfl rfl ?_
            exact y_retI rfl (by decide) rfl rfl
    · skip
      refine y_iconst (x := 0) (q := 102) rfl (by decide) rfl ?_
      refine y_goto (q := 127) rfl rfl ?_
      refine y_istore (lo' := [some (.ref 0), some (.int v1), some (.int v2), some (.int r9), some (.int 0), some (.int 0)]) (q := 129) rfl (Nat.le_of_ble_eq_true rfl) rfl rfl ?_
      refine y_aload_n (q := 130) rfl rfl rfl ?_
      refine y_getI (q := 133) rfl rfl (by decide) atM0 rfl rfl ?_
      refine y_ne0 (q := 147) (q' := 136) rfl rfl rfl rfl (fun c77 => ?_) (fun c78 => ?_)
      · skip
        refine y_aload_n (q := 137) rfl rfl rfl ?_
        refine y_getI (q := 140) rfl rfl (by decide) atM0 rfl rfl ?_
        refine y_eq0 (q := 147) (q' := 143) rfl rfl rfl rfl (fun c79 => ?_) (fun c80 => ?_)
        · skip
          refine y_iload_n (q := 148) rfl rfl rfl ?_
          refine y_ne0 (q := 155) (q' := 151) rfl rfl rfl rfl (fun c81 => ?_) (fun c82 => ?_)
          · skip
            refine y_iload_n (q := 152) rfl rfl rfl ?_
            refine y_goto (q := 167) rfl rfl ?_
            exact y_retI rfl (by decide) rfl rfl
          · skip
            refine y_iload_n (q := 156) rfl rfl rfl ?_
            refine y_iconst (x := 1) (q := 157) rfl (by decide) rfl ?_
            refine y_ne (q := 165) (q' := 160) rfl rfl (by decide) rfl rfl (fun c83 => ?_) (fun c84 => ?_)
            · skip
              refine y_iload (q := 162) rfl rfl rfl ?_
              refine y_goto (q := 167) rfl rfl ?_
              exact y_retI rfl (by decide) rfl rfl
            · skip
              refine y_iload (q := 167) rfl rfl rfl ?_
              exact y_retI rfl (by decide) rfl rfl
        · skip
          refine y_aload_n (q := 144) rfl rfl rfl ?_
          refine y_callV (I := .invokevirtual 206) (idx := 206) (KD := 1) (J := 146) (mj := mj136) (as := [.ref 0]) (r := []) (q := 147) rfl (fun _ _ _ _ _ _ => rfl) rfl (by decide) rfl rfl rfl rfl rfl (Nat.le_of_ble_eq_true rfl) (d_recv atM0 (by decide) (by decide)) rfl (m_X7_fail (Nat.le_trans (by decide) hd)  g10) (fun g85 => ?_)
          refine y_iload_n (q := 148) rfl rfl rfl ?_
          refine y_ne0 (q := 155) (q' := 151) rfl rfl rfl rfl (fun c86 => ?_) (fun c87 => ?_)
          · skip
            refine y_iload_n (q := 152) rfl rfl rfl ?_
            refine y_goto (q := 167) rfl rfl ?_
            exact y_retI rfl (by decide) rfl rfl
          · skip
            refine y_iload_n (q := 156) rfl rfl rfl ?_
            refine y_iconst (x := 1) (q := 157) rfl (by decide) rfl ?_
            refine y_ne (q := 165) (q' := 160) rfl rfl (by decide) rfl rfl (fun c88 => ?_) (fun c89 => ?_)
            · skip
              refine y_iload (q := 162) rfl rfl rfl ?_
              refine y_goto (q := 167) rfl rfl ?_
              exact y_retI rfl (by decide) rfl rfl
            · skip
              refine y_iload (q := 167) rfl rfl rfl ?_
              exact y_retI rfl (by decide) rfl rfl
      · skip
        refine y_iload_n (q := 148) rfl rfl rfl ?_
        refine y_ne0 (q := 155) (q' := 151) rfl rfl rfl rfl (fun c90 => ?_) (fun c91 => ?_)
        · skip
          refine y_iload_n (q := 152) rfl rfl rfl ?_
          refine y_goto (q := 167) rfl rfl ?_
          exact y_retI rfl (by decide) rfl rfl
        · skip
          refine y_iload_n (q := 156) rfl rfl rfl ?_
          refine y_iconst (x := 1) (q := 157) rfl (by decide) rfl ?_
          refine y_ne (q := 165) (q' := 160) rfl rfl (by decide) rfl rfl (fun c92 => ?_) (fun c93 => ?_)
          · skip
            refine y_iload (q := 162) rfl rfl rfl ?_
            refine y_goto (q := 167) rfl rfl ?_
            exact y_retI rfl (by decide) rfl rfl
          · skip
            refine y_iload (q := 167) rfl rfl rfl ?_
            exact y_retI rfl (by decide) rfl rfl
end
end
