/-! words of the JDK's texts; small rows -/
noncomputable section
def zStr (w : Nat) : Prop := ∃ i, i < 13 ∧ w = xB + 10 + i
theorem zStr_k {i : Nat} (h : i < 13) : zStr (xB + 10 + i) := ⟨i, h, rfl⟩
theorem d_recvS {C : List xCel} {a : Nat} {as : List Value} (h : zStr a) : xrecv C 1 10 (.ref a :: as) = true := by
  obtain ⟨i, hi, rfl⟩ := h
  unfold xrecv
  simp only [if_true]
  rw [decide_eq_true (show xB + 10 ≤ xB + 10 + i by omega), decide_eq_true (show xB + 10 + i < xB + 23 by omega)]; rfl
theorem oi_1 : Int32.ofInt 1 = 1 := by decide
theorem oi_m1 : Int32.ofInt (-1) = -1 := by decide
theorem d_bool {x : Int32} (h : x = 0 ∨ x = 1) : xrfit 3 (.int x) = true := by
  rcases h with rfl | rfl <;> rfl
theorem dlook_none {x d : Int} : ∀ {ps : List (Int × Int)}, (∀ p ∈ ps, ¬ x = p.1) → Op.lookupswitch.offset ps d x = d
  | [], _ => rfl
  | (a, o) :: r, h => by
    rw [Op.lookupswitch.offset_cons, if_neg (fun e => h (a, o) List.mem_cons_self e.symm)]
    exact dlook_none fun p hp => h p (List.mem_cons_of_mem _ hp)
/-- the letters of a text -/
def strOf (w : Nat) : List Int32 := (xnth xByt (w - (xB + 10))).getD []
def f_J0_length_8abf5 (w : Nat) : Option Int32 := some (Int32.ofNat (strOf w).length)
def f_J0_charAt_5068e (w : Nat) (i : Int32) : Option Int32 := if 0 ≤ i.toInt ∧ i.toInt < (strOf w).length then some ((strOf w).getD i.toInt.toNat 0) else none
/-! letters (by program) -/
theorem xSl0 (C : List xCel) : xexec 90 7 234 [.ref (xB + 10 + 0)] C [] = some [(some (.int (Int32.ofNat 34)), C, [])] := rfl
theorem xSc0 (C : List xCel) : ∀ (k : Nat) (c : Int32), ([109, 101, 101, 116, 115, 32, 53, 32, 59, 32, 102, 97, 100, 101, 115, 32, 50, 32, 59, 32, 115, 111, 117, 110, 100, 115, 32, 115, 101, 97, 116, 115, 32, 59] : List Int32)[k]? = some c → xexec 90 7 235 [.ref (xB + 10 + 0), .int (Int32.ofNat k)] C [] = some [(some (.int c), C, [])]
  | 0, _, h => by cases h; rfl
  | 1, _, h => by cases h; rfl
  | 2, _, h => by cases h; rfl
  | 3, _, h => by cases h; rfl
  | 4, _, h => by cases h; rfl
  | 5, _, h => by cases h; rfl
  | 6, _, h => by cases h; rfl
  | 7, _, h => by cases h; rfl
  | 8, _, h => by cases h; rfl
  | 9, _, h => by cases h; rfl
  | 10, _, h => by cases h; rfl
  | 11, _, h => by cases h; rfl
  | 12, _, h => by cases h; rfl
  | 13, _, h => by cases h; rfl
  | 14, _, h => by cases h; rfl
  | 15, _, h => by cases h; rfl
  | 16, _, h => by cases h; rfl
  | 17, _, h => by cases h; rfl
  | 18, _, h => by cases h; rfl
  | 19, _, h => by cases h; rfl
  | 20, _, h => by cases h; rfl
  | 21, _, h => by cases h; rfl
  | 22, _, h => by cases h; rfl
  | 23, _, h => by cases h; rfl
  | 24, _, h => by cases h; rfl
  | 25, _, h => by cases h; rfl
  | 26, _, h => by cases h; rfl
  | 27, _, h => by cases h; rfl
  | 28, _, h => by cases h; rfl
  | 29, _, h => by cases h; rfl
  | 30, _, h => by cases h; rfl
  | 31, _, h => by cases h; rfl
  | 32, _, h => by cases h; rfl
  | 33, _, h => by cases h; rfl
  | n + 34, _, h => by simp at h
theorem xSl1 (C : List xCel) : xexec 90 7 234 [.ref (xB + 10 + 1)] C [] = some [(some (.int (Int32.ofNat 8)), C, [])] := rfl
theorem xSc1 (C : List xCel) : ∀ (k : Nat) (c : Int32), ([115, 116, 114, 101, 110, 103, 116, 104] : List Int32)[k]? = some c → xexec 90 7 235 [.ref (xB + 10 + 1), .int (Int32.ofNat k)] C [] = some [(some (.int c), C, [])]
  | 0, _, h => by cases h; rfl
  | 1, _, h => by cases h; rfl
  | 2, _, h => by cases h; rfl
  | 3, _, h => by cases h; rfl
  | 4, _, h => by cases h; rfl
  | 5, _, h => by cases h; rfl
  | 6, _, h => by cases h; rfl
  | 7, _, h => by cases h; rfl
  | n + 8, _, h => by simp at h
theorem xSl2 (C : List xCel) : xexec 90 7 234 [.ref (xB + 10 + 2)] C [] = some [(some (.int (Int32.ofNat 6)), C, [])] := rfl
theorem xSc2 (C : List xCel) : ∀ (k : Nat) (c : Int32), ([110, 117, 109, 98, 101, 114] : List Int32)[k]? = some c → xexec 90 7 235 [.ref (xB + 10 + 2), .int (Int32.ofNat k)] C [] = some [(some (.int c), C, [])]
  | 0, _, h => by cases h; rfl
  | 1, _, h => by cases h; rfl
  | 2, _, h => by cases h; rfl
  | 3, _, h => by cases h; rfl
  | 4, _, h => by cases h; rfl
  | 5, _, h => by cases h; rfl
  | n + 6, _, h => by simp at h
theorem xSl3 (C : List xCel) : xexec 90 7 234 [.ref (xB + 10 + 3)] C [] = some [(some (.int (Int32.ofNat 5)), C, [])] := rfl
theorem xSc3 (C : List xCel) : ∀ (k : Nat) (c : Int32), ([111, 116, 104, 101, 114] : List Int32)[k]? = some c → xexec 90 7 235 [.ref (xB + 10 + 3), .int (Int32.ofNat k)] C [] = some [(some (.int c), C, [])]
  | 0, _, h => by cases h; rfl
  | 1, _, h => by cases h; rfl
  | 2, _, h => by cases h; rfl
  | 3, _, h => by cases h; rfl
  | 4, _, h => by cases h; rfl
  | n + 5, _, h => by simp at h
theorem xSl4 (C : List xCel) : xexec 90 7 234 [.ref (xB + 10 + 4)] C [] = some [(some (.int (Int32.ofNat 5)), C, [])] := rfl
theorem xSc4 (C : List xCel) : ∀ (k : Nat) (c : Int32), ([115, 101, 97, 116, 115] : List Int32)[k]? = some c → xexec 90 7 235 [.ref (xB + 10 + 4), .int (Int32.ofNat k)] C [] = some [(some (.int c), C, [])]
  | 0, _, h => by cases h; rfl
  | 1, _, h => by cases h; rfl
  | 2, _, h => by cases h; rfl
  | 3, _, h => by cases h; rfl
  | 4, _, h => by cases h; rfl
  | n + 5, _, h => by simp at h
theorem xSl5 (C : List xCel) : xexec 90 7 234 [.ref (xB + 10 + 5)] C [] = some [(some (.int (Int32.ofNat 4)), C, [])] := rfl
theorem xSc5 (C : List xCel) : ∀ (k : Nat) (c : Int32), ([121, 101, 97, 114] : List Int32)[k]? = some c → xexec 90 7 235 [.ref (xB + 10 + 5), .int (Int32.ofNat k)] C [] = some [(some (.int c), C, [])]
  | 0, _, h => by cases h; rfl
  | 1, _, h => by cases h; rfl
  | 2, _, h => by cases h; rfl
  | 3, _, h => by cases h; rfl
  | n + 4, _, h => by simp at h
theorem xSl6 (C : List xCel) : xexec 90 7 234 [.ref (xB + 10 + 6)] C [] = some [(some (.int (Int32.ofNat 5)), C, [])] := rfl
theorem xSc6 (C : List xCel) : ∀ (k : Nat) (c : Int32), ([97, 112, 97, 114, 116] : List Int32)[k]? = some c → xexec 90 7 235 [.ref (xB + 10 + 6), .int (Int32.ofNat k)] C [] = some [(some (.int c), C, [])]
  | 0, _, h => by cases h; rfl
  | 1, _, h => by cases h; rfl
  | 2, _, h => by cases h; rfl
  | 3, _, h => by cases h; rfl
  | 4, _, h => by cases h; rfl
  | n + 5, _, h => by simp at h
theorem xSl7 (C : List xCel) : xexec 90 7 234 [.ref (xB + 10 + 7)] C [] = some [(some (.int (Int32.ofNat 5)), C, [])] := rfl
theorem xSc7 (C : List xCel) : ∀ (k : Nat) (c : Int32), ([109, 101, 101, 116, 115] : List Int32)[k]? = some c → xexec 90 7 235 [.ref (xB + 10 + 7), .int (Int32.ofNat k)] C [] = some [(some (.int c), C, [])]
  | 0, _, h => by cases h; rfl
  | 1, _, h => by cases h; rfl
  | 2, _, h => by cases h; rfl
  | 3, _, h => by cases h; rfl
  | 4, _, h => by cases h; rfl
  | n + 5, _, h => by simp at h
theorem xSl8 (C : List xCel) : xexec 90 7 234 [.ref (xB + 10 + 8)] C [] = some [(some (.int (Int32.ofNat 5)), C, [])] := rfl
theorem xSc8 (C : List xCel) : ∀ (k : Nat) (c : Int32), ([102, 97, 100, 101, 115] : List Int32)[k]? = some c → xexec 90 7 235 [.ref (xB + 10 + 8), .int (Int32.ofNat k)] C [] = some [(some (.int c), C, [])]
  | 0, _, h => by cases h; rfl
  | 1, _, h => by cases h; rfl
  | 2, _, h => by cases h; rfl
  | 3, _, h => by cases h; rfl
  | 4, _, h => by cases h; rfl
  | n + 5, _, h => by simp at h
theorem xSl9 (C : List xCel) : xexec 90 7 234 [.ref (xB + 10 + 9)] C [] = some [(some (.int (Int32.ofNat 6)), C, [])] := rfl
theorem xSc9 (C : List xCel) : ∀ (k : Nat) (c : Int32), ([115, 111, 117, 110, 100, 115] : List Int32)[k]? = some c → xexec 90 7 235 [.ref (xB + 10 + 9), .int (Int32.ofNat k)] C [] = some [(some (.int c), C, [])]
  | 0, _, h => by cases h; rfl
  | 1, _, h => by cases h; rfl
  | 2, _, h => by cases h; rfl
  | 3, _, h => by cases h; rfl
  | 4, _, h => by cases h; rfl
  | 5, _, h => by cases h; rfl
  | n + 6, _, h => by simp at h
theorem xSl10 (C : List xCel) : xexec 90 7 234 [.ref (xB + 10 + 10)] C [] = some [(some (.int (Int32.ofNat 2)), C, [])] := rfl
theorem xSc10 (C : List xCel) : ∀ (k : Nat) (c : Int32), ([111, 114] : List Int32)[k]? = some c → xexec 90 7 235 [.ref (xB + 10 + 10), .int (Int32.ofNat k)] C [] = some [(some (.int c), C, [])]
  | 0, _, h => by cases h; rfl
  | 1, _, h => by cases h; rfl
  | n + 2, _, h => by simp at h
theorem xSl11 (C : List xCel) : xexec 90 7 234 [.ref (xB + 10 + 11)] C [] = some [(some (.int (Int32.ofNat 3)), C, [])] := rfl
theorem xSc11 (C : List xCel) : ∀ (k : Nat) (c : Int32), ([97, 110, 100] : List Int32)[k]? = some c → xexec 90 7 235 [.ref (xB + 10 + 11), .int (Int32.ofNat k)] C [] = some [(some (.int c), C, [])]
  | 0, _, h => by cases h; rfl
  | 1, _, h => by cases h; rfl
  | 2, _, h => by cases h; rfl
  | n + 3, _, h => by simp at h
theorem xSl12 (C : List xCel) : xexec 90 7 234 [.ref (xB + 10 + 12)] C [] = some [(some (.int (Int32.ofNat 3)), C, [])] := rfl
theorem xSc12 (C : List xCel) : ∀ (k : Nat) (c : Int32), ([110, 111, 116] : List Int32)[k]? = some c → xexec 90 7 235 [.ref (xB + 10 + 12), .int (Int32.ofNat k)] C [] = some [(some (.int c), C, [])]
  | 0, _, h => by cases h; rfl
  | 1, _, h => by cases h; rfl
  | 2, _, h => by cases h; rfl
  | n + 3, _, h => by simp at h
theorem xSo0 : strOf (xB + 10 + 0) = [109, 101, 101, 116, 115, 32, 53, 32, 59, 32, 102, 97, 100, 101, 115, 32, 50, 32, 59, 32, 115, 111, 117, 110, 100, 115, 32, 115, 101, 97, 116, 115, 32, 59] := by
  unfold strOf
  rw [Nat.add_sub_cancel_left]; rfl
theorem xSo1 : strOf (xB + 10 + 1) = [115, 116, 114, 101, 110, 103, 116, 104] := by
  unfold strOf
  rw [Nat.add_sub_cancel_left]; rfl
theorem xSo2 : strOf (xB + 10 + 2) = [110, 117, 109, 98, 101, 114] := by
  unfold strOf
  rw [Nat.add_sub_cancel_left]; rfl
theorem xSo3 : strOf (xB + 10 + 3) = [111, 116, 104, 101, 114] := by
  unfold strOf
  rw [Nat.add_sub_cancel_left]; rfl
theorem xSo4 : strOf (xB + 10 + 4) = [115, 101, 97, 116, 115] := by
  unfold strOf
  rw [Nat.add_sub_cancel_left]; rfl
theorem xSo5 : strOf (xB + 10 + 5) = [121, 101, 97, 114] := by
  unfold strOf
  rw [Nat.add_sub_cancel_left]; rfl
theorem xSo6 : strOf (xB + 10 + 6) = [97, 112, 97, 114, 116] := by
  unfold strOf
  rw [Nat.add_sub_cancel_left]; rfl
theorem xSo7 : strOf (xB + 10 + 7) = [109, 101, 101, 116, 115] := by
  unfold strOf
  rw [Nat.add_sub_cancel_left]; rfl
theorem xSo8 : strOf (xB + 10 + 8) = [102, 97, 100, 101, 115] := by
  unfold strOf
  rw [Nat.add_sub_cancel_left]; rfl
theorem xSo9 : strOf (xB + 10 + 9) = [115, 111, 117, 110, 100, 115] := by
  unfold strOf
  rw [Nat.add_sub_cancel_left]; rfl
theorem xSo10 : strOf (xB + 10 + 10) = [111, 114] := by
  unfold strOf
  rw [Nat.add_sub_cancel_left]; rfl
theorem xSo11 : strOf (xB + 10 + 11) = [97, 110, 100] := by
  unfold strOf
  rw [Nat.add_sub_cancel_left]; rfl
theorem xSo12 : strOf (xB + 10 + 12) = [110, 111, 116] := by
  unfold strOf
  rw [Nat.add_sub_cancel_left]; rfl
theorem zStr_or {w : Nat} (h : zStr w) : w = xB + 10 + 0 ∨ w = xB + 10 + 1 ∨ w = xB + 10 + 2 ∨ w = xB + 10 + 3 ∨ w = xB + 10 + 4 ∨ w = xB + 10 + 5 ∨ w = xB + 10 + 6 ∨ w = xB + 10 + 7 ∨ w = xB + 10 + 8 ∨ w = xB + 10 + 9 ∨ w = xB + 10 + 10 ∨ w = xB + 10 + 11 ∨ w = xB + 10 + 12 := by
  obtain ⟨i, hi, rfl⟩ := h
  omega
theorem m_J0_length_8abf5 {d : Nat} (hd : 8 ≤ d) (a0 : Nat) (ha0 : zStr a0) (h : dH) : dX shC d 234 [.ref a0] (dP h) (f_J0_length_8abf5 a0) h := by
  refine dX.lift (d := 7) ?_ (by omega)
  intro o ho
  obtain rfl : Int32.ofNat (strOf a0).length = o := Option.some.inj ho
  rcases zStr_or ha0 with rfl | rfl | rfl | rfl | rfl | rfl | rfl | rfl | rfl | rfl | rfl | rfl | rfl
  · rw [xSo0]; exact ⟨90, xSl0 _⟩
  · rw [xSo1]; exact ⟨90, xSl1 _⟩
  · rw [xSo2]; exact ⟨90, xSl2 _⟩
  · rw [xSo3]; exact ⟨90, xSl3 _⟩
  · rw [xSo4]; exact ⟨90, xSl4 _⟩
  · rw [xSo5]; exact ⟨90, xSl5 _⟩
  · rw [xSo6]; exact ⟨90, xSl6 _⟩
  · rw [xSo7]; exact ⟨90, xSl7 _⟩
  · rw [xSo8]; exact ⟨90, xSl8 _⟩
  · rw [xSo9]; exact ⟨90, xSl9 _⟩
  · rw [xSo10]; exact ⟨90, xSl10 _⟩
  · rw [xSo11]; exact ⟨90, xSl11 _⟩
  · rw [xSo12]; exact ⟨90, xSl12 _⟩
theorem xS_all {w : Nat} (hw : zStr w) (C : List xCel) (k : Nat) (c : Int32) (he : (strOf w)[k]? = some c) : xexec 90 7 235 [.ref w, .int (Int32.ofNat k)] C [] = some [(some (.int c), C, [])] := by
  rcases zStr_or hw with rfl | rfl | rfl | rfl | rfl | rfl | rfl | rfl | rfl | rfl | rfl | rfl | rfl
  · rw [xSo0] at he; exact xSc0 _ k c he
  · rw [xSo1] at he; exact xSc1 _ k c he
  · rw [xSo2] at he; exact xSc2 _ k c he
  · rw [xSo3] at he; exact xSc3 _ k c he
  · rw [xSo4] at he; exact xSc4 _ k c he
  · rw [xSo5] at he; exact xSc5 _ k c he
  · rw [xSo6] at he; exact xSc6 _ k c he
  · rw [xSo7] at he; exact xSc7 _ k c he
  · rw [xSo8] at he; exact xSc8 _ k c he
  · rw [xSo9] at he; exact xSc9 _ k c he
  · rw [xSo10] at he; exact xSc10 _ k c he
  · rw [xSo11] at he; exact xSc11 _ k c he
  · rw [xSo12] at he; exact xSc12 _ k c he
theorem i32_nat {v : Int32} (h : 0 ≤ v.toInt) : Int32.ofNat v.toInt.toNat = v := by
  apply Int32.toInt_inj.mp
  have := Int32.toInt_lt v
  rw [Int32.toInt_ofNat_of_lt (by omega)]
  omega
theorem chr_at {l : List Int32} {v1 o : Int32} (ho : (if 0 ≤ v1.toInt ∧ v1.toInt < l.length then some (l.getD v1.toInt.toNat 0) else none) = some o) : 0 ≤ v1.toInt ∧ l[v1.toInt.toNat]? = some o := by
  split at ho
  · next hb =>
    have hk : v1.toInt.toNat < l.length := by omega
    refine ⟨hb.1, ?_⟩
    rw [← Option.some.inj ho, List.getD_eq_getElem?_getD, List.getElem?_eq_getElem hk]; rfl
  · cases ho
theorem m_J0_charAt_5068e {d : Nat} (hd : 8 ≤ d) (a0 : Nat) (ha0 : zStr a0) (v1 : Int32) (h : dH) : dX shC d 235 [.ref a0, .int v1] (dP h) (f_J0_charAt_5068e a0 v1) h := by
  refine dX.lift (d := 7) ?_ (by omega)
  intro o ho
  obtain ⟨h0, he⟩ := chr_at ho
  have hx := xS_all ha0 (dC shC h) _ _ he
  rw [i32_nat h0] at hx
  exact ⟨90, hx⟩
end
