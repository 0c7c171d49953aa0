/-! the levels but the third, by name -/
noncomputable section
theorem lv4 (t r : Int32) (h : f_X1_levelOf t = some r) : r.toInt = ((4 : Nat) : Int) ↔ t.toInt = 42 := by
  have q := level_ok r h
  omega
theorem lv3 (t r : Int32) (h : f_X1_levelOf t = some r) : r.toInt = ((3 : Nat) : Int) ↔ (t.toInt = 43 ∨ t.toInt = 45) := by
  have q := level_ok r h
  omega
theorem lv1 (t r : Int32) (h : f_X1_levelOf t = some r) : r.toInt = ((1 : Nat) : Int) ↔ t.toInt = 308 := by
  have q := level_ok r h
  omega
theorem lv0 (t r : Int32) (h : f_X1_levelOf t = some r) : r.toInt = ((0 : Nat) : Int) ↔ t.toInt = 307 := by
  have q := level_ok r h
  omega
theorem op4 (t r : Int32) (c : t.toInt = 42) (h : f_X1_operationOf t = some r) : r = -13 := by
  rcases oper_ok r h with ⟨a, b⟩ | ⟨a, b⟩ | ⟨a, b⟩ | ⟨a, b⟩ | ⟨a, b⟩ | ⟨a, b⟩ | ⟨-, -, -, -, -, -, b⟩
  · omega
  · omega
  · omega
  · omega
  · omega
  · omega
  · exact b
theorem op3 (t r : Int32) (c : t.toInt = 43 ∨ t.toInt = 45) (h : f_X1_operationOf t = some r) : r = if t.toInt = 43 then -11 else -12 := by
  rcases oper_ok r h with ⟨a, b⟩ | ⟨a, b⟩ | ⟨a, b⟩ | ⟨a, b⟩ | ⟨a, b⟩ | ⟨a, b⟩ | ⟨a1, a2, -, -, -, -, b⟩
  · rw [if_pos a]; exact b
  · rw [if_neg (by omega)]; exact b
  · omega
  · omega
  · omega
  · omega
  · omega
theorem op1 (t r : Int32) (c : t.toInt = 308) (h : f_X1_operationOf t = some r) : r = -8 := by
  rcases oper_ok r h with ⟨a, b⟩ | ⟨a, b⟩ | ⟨a, b⟩ | ⟨a, b⟩ | ⟨a, b⟩ | ⟨a, b⟩ | ⟨-, -, -, -, -, a, b⟩
  · omega
  · omega
  · omega
  · omega
  · omega
  · exact b
  · omega
theorem op0 (t r : Int32) (c : t.toInt = 307) (h : f_X1_operationOf t = some r) : r = -7 := by
  rcases oper_ok r h with ⟨a, b⟩ | ⟨a, b⟩ | ⟨a, b⟩ | ⟨a, b⟩ | ⟨a, b⟩ | ⟨a, b⟩ | ⟨-, -, -, -, a, -, b⟩
  · omega
  · omega
  · omega
  · omega
  · exact b
  · omega
  · omega
section PR
variable {B : Nat → Int} {N : Nat} {P : Nat → Nat} {n : Nat} {k : Nat}
variable (B N P n k) in
/-- the class's read at a level (depth k, fuel m) against a function of the reference -/
def Rd (m lv D : Nat) (S : dH → Option (Int32 × dH)) : Prop := ∀ (u v : Int32) (g h : dH) (i : Nat) (f : dH) (o : Int32 × dH), u.toInt = lv → v.toInt = k → St B N P n k i g h → f_X1_read m u v g = some f → S h = some o → Out B N P n k D i g h f o
theorem Rd.zero {lv D : Nat} {S : dH → Option (Int32 × dH)} : Rd B N P n k 0 lv D S := by
  intro u v g h i f o _ _ _ hf _
  cases hf
theorem Rd.one {m D : Nat} {A : dH → Option (Int32 × dH)} (hA : ∀ (n' : Nat) (v : Int32) (g h : dH) (i : Nat) (f : dH) (o : Int32 × dH), v.toInt = k → St B N P n k i g h → f_X1_readOne (f_X1_read m) n' v g = some f → A h = some o → Out B N P n k D i g h f o) : Rd B N P n k (m + 1) 5 D A := by
  intro u v g h i f o hu hv hs hf ho
  have hf' : f_X1_readB (f_X1_read m) u v g = some f := hf
  clear hf
  unfold f_X1_readB at hf'
  rw [if_pos (by omega)] at hf'
  revert f
  refine al_oV' (fun g1 h1 => ?_)
  intro f hf
  cases hf
  exact hA 10 v g h i g1 o hv hs h1 ho
theorem Rd.term {m D : Nat} {S F : dH → Option (Int32 × dH)} {L : Nat → Int32 → dH → Option (Int32 × dH)} (hS : Rd B N P n k m 5 D S) (hL : LoopM B N P n (fun c => c = 42) (fun _ => -13) S L) (hF : ∀ h, F h = oI (S h) (fun r g => L fuel0 r g)) : Rd B N P n k (m + 1) 4 (D + 1) F := by
  intro u v g h i f o hu hv hs hf ho
  exact level_gen hL hF (lv := 4) hu (by omega) (by omega) hv (fun c _ => ⟨by omega, by decide, by decide⟩) lv4 op4 (fun u g h i f o hu => hS u v g h i f o (by omega) hv) hs f o hf ho
theorem Rd.added {m D : Nat} {S F : dH → Option (Int32 × dH)} {L : Nat → Int32 → dH → Option (Int32 × dH)} (hS : Rd B N P n k m 4 D S) (hL : LoopM B N P n (fun c => c = 43 ∨ c = 45) (fun c => if c = 43 then -11 else -12) S L) (hF : ∀ h, F h = oI (S h) (fun r g => L fuel0 r g)) : Rd B N P n k (m + 1) 3 (D + 1) F := by
  intro u v g h i f o hu hv hs hf ho
  refine level_gen hL hF (lv := 3) hu (by omega) (by omega) hv (fun c q => ?_) lv3 op3 (fun u g h i f o hu => hS u v g h i f o (by omega) hv) hs f o hf ho
  refine ⟨by omega, ?_⟩
  by_cases z : c = 43
  · rw [if_pos z]; decide
  · rw [if_neg z]; decide
theorem Rd.both {m D : Nat} {S F : dH → Option (Int32 × dH)} {L : Nat → Int32 → dH → Option (Int32 × dH)} (hS : Rd B N P n k m 2 D S) (hL : LoopM B N P n (fun c => c = 308) (fun _ => -8) S L) (hF : ∀ h, F h = oI (S h) (fun r g => L fuel0 r g)) : Rd B N P n k (m + 1) 1 (D + 1) F := by
  intro u v g h i f o hu hv hs hf ho
  exact level_gen hL hF (lv := 1) hu (by omega) (by omega) hv (fun c _ => ⟨by omega, by decide, by decide⟩) lv1 op1 (fun u g h i f o hu => hS u v g h i f o (by omega) hv) hs f o hf ho
theorem Rd.either {m D : Nat} {S F : dH → Option (Int32 × dH)} {L : Nat → Int32 → dH → Option (Int32 × dH)} (hS : Rd B N P n k m 1 D S) (hL : LoopM B N P n (fun c => c = 307) (fun _ => -7) S L) (hF : ∀ h, F h = oI (S h) (fun r g => L fuel0 r g)) : Rd B N P n k (m + 1) 0 (D + 1) F := by
  intro u v g h i f o hu hv hs hf ho
  exact level_gen hL hF (lv := 0) hu (by omega) (by omega) hv (fun c _ => ⟨by omega, by decide, by decide⟩) lv0 op0 (fun u g h i f o hu => hS u v g h i f o (by omega) hv) hs f o hf ho
end PR
end
