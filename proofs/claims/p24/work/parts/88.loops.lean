/-! the loops of the reference, depth by depth -/
noncomputable section
section PR
variable {B : Nat → Int} {N : Nat} {P : Nat → Nat} {n : Nat}
theorem termL0 : LoopM B N P n (fun c => c = 42) (fun _ => -13) f_X7_atom0 (l_X7_term0_5 (fun v g => some (v, g))) := loopM_term (fun _ _ => rfl) (fun _ _ _ => rfl)
theorem termF0 (h : dH) : f_X7_term0 h = oI (f_X7_atom0 h) (fun r g => l_X7_term0_5 (fun v g => some (v, g)) fuel0 r g) := rfl
theorem addedL0 : LoopM B N P n (fun c => c = 43 ∨ c = 45) (fun c => if c = 43 then -11 else -12) f_X7_term0 (l_X7_added0_5 (fun v g => some (v, g))) := loopM_added (fun _ _ => rfl) (fun _ _ _ => rfl)
theorem addedF0 (h : dH) : f_X7_added0 h = oI (f_X7_term0 h) (fun r g => l_X7_added0_5 (fun v g => some (v, g)) fuel0 r g) := rfl
theorem bothL0 : LoopM B N P n (fun c => c = 308) (fun _ => -8) f_X7_not0 (l_X7_both0_5 (fun v g => some (v, g))) := loopM_both (fun _ _ => rfl) (fun _ _ _ => rfl)
theorem bothF0 (h : dH) : f_X7_both0 h = oI (f_X7_not0 h) (fun r g => l_X7_both0_5 (fun v g => some (v, g)) fuel0 r g) := rfl
theorem eitherL0 : LoopM B N P n (fun c => c = 307) (fun _ => -7) f_X7_both0 (l_X7_either0_5 (fun v g => some (v, g))) := loopM_either (fun _ _ => rfl) (fun _ _ _ => rfl)
theorem eitherF0 (h : dH) : f_X7_either0 h = oI (f_X7_both0 h) (fun r g => l_X7_either0_5 (fun v g => some (v, g)) fuel0 r g) := rfl
theorem termL1 : LoopM B N P n (fun c => c = 42) (fun _ => -13) f_X7_atom1 (l_X7_term1_5 (fun v g => some (v, g))) := loopM_term (fun _ _ => rfl) (fun _ _ _ => rfl)
theorem termF1 (h : dH) : f_X7_term1 h = oI (f_X7_atom1 h) (fun r g => l_X7_term1_5 (fun v g => some (v, g)) fuel0 r g) := rfl
theorem addedL1 : LoopM B N P n (fun c => c = 43 ∨ c = 45) (fun c => if c = 43 then -11 else -12) f_X7_term1 (l_X7_added1_5 (fun v g => some (v, g))) := loopM_added (fun _ _ => rfl) (fun _ _ _ => rfl)
theorem addedF1 (h : dH) : f_X7_added1 h = oI (f_X7_term1 h) (fun r g => l_X7_added1_5 (fun v g => some (v, g)) fuel0 r g) := rfl
theorem bothL1 : LoopM B N P n (fun c => c = 308) (fun _ => -8) f_X7_not1 (l_X7_both1_5 (fun v g => some (v, g))) := loopM_both (fun _ _ => rfl) (fun _ _ _ => rfl)
theorem bothF1 (h : dH) : f_X7_both1 h = oI (f_X7_not1 h) (fun r g => l_X7_both1_5 (fun v g => some (v, g)) fuel0 r g) := rfl
theorem eitherL1 : LoopM B N P n (fun c => c = 307) (fun _ => -7) f_X7_both1 (l_X7_either1_5 (fun v g => some (v, g))) := loopM_either (fun _ _ => rfl) (fun _ _ _ => rfl)
theorem eitherF1 (h : dH) : f_X7_either1 h = oI (f_X7_both1 h) (fun r g => l_X7_either1_5 (fun v g => some (v, g)) fuel0 r g) := rfl
theorem termL2 : LoopM B N P n (fun c => c = 42) (fun _ => -13) f_X7_atom2 (l_X7_term2_5 (fun v g => some (v, g))) := loopM_term (fun _ _ => rfl) (fun _ _ _ => rfl)
theorem termF2 (h : dH) : f_X7_term2 h = oI (f_X7_atom2 h) (fun r g => l_X7_term2_5 (fun v g => some (v, g)) fuel0 r g) := rfl
theorem addedL2 : LoopM B N P n (fun c => c = 43 ∨ c = 45) (fun c => if c = 43 then -11 else -12) f_X7_term2 (l_X7_added2_5 (fun v g => some (v, g))) := loopM_added (fun _ _ => rfl) (fun _ _ _ => rfl)
theorem addedF2 (h : dH) : f_X7_added2 h = oI (f_X7_term2 h) (fun r g => l_X7_added2_5 (fun v g => some (v, g)) fuel0 r g) := rfl
theorem bothL2 : LoopM B N P n (fun c => c = 308) (fun _ => -8) f_X7_not2 (l_X7_both2_5 (fun v g => some (v, g))) := loopM_both (fun _ _ => rfl) (fun _ _ _ => rfl)
theorem bothF2 (h : dH) : f_X7_both2 h = oI (f_X7_not2 h) (fun r g => l_X7_both2_5 (fun v g => some (v, g)) fuel0 r g) := rfl
theorem eitherL2 : LoopM B N P n (fun c => c = 307) (fun _ => -7) f_X7_both2 (l_X7_either2_5 (fun v g => some (v, g))) := loopM_either (fun _ _ => rfl) (fun _ _ _ => rfl)
theorem eitherF2 (h : dH) : f_X7_either2 h = oI (f_X7_both2 h) (fun r g => l_X7_either2_5 (fun v g => some (v, g)) fuel0 r g) := rfl
theorem termL3 : LoopM B N P n (fun c => c = 42) (fun _ => -13) f_X7_atom3 (l_X7_term3_5 (fun v g => some (v, g))) := loopM_term (fun _ _ => rfl) (fun _ _ _ => rfl)
theorem termF3 (h : dH) : f_X7_term3 h = oI (f_X7_atom3 h) (fun r g => l_X7_term3_5 (fun v g => some (v, g)) fuel0 r g) := rfl
theorem addedL3 : LoopM B N P n (fun c => c = 43 ∨ c = 45) (fun c => if c = 43 then -11 else -12) f_X7_term3 (l_X7_added3_5 (fun v g => some (v, g))) := loopM_added (fun _ _ => rfl) (fun _ _ _ => rfl)
theorem addedF3 (h : dH) : f_X7_added3 h = oI (f_X7_term3 h) (fun r g => l_X7_added3_5 (fun v g => some (v, g)) fuel0 r g) := rfl
theorem bothL3 : LoopM B N P n (fun c => c = 308) (fun _ => -8) f_X7_not3 (l_X7_both3_5 (fun v g => some (v, g))) := loopM_both (fun _ _ => rfl) (fun _ _ _ => rfl)
theorem bothF3 (h : dH) : f_X7_both3 h = oI (f_X7_not3 h) (fun r g => l_X7_both3_5 (fun v g => some (v, g)) fuel0 r g) := rfl
theorem eitherL3 : LoopM B N P n (fun c => c = 307) (fun _ => -7) f_X7_both3 (l_X7_either3_5 (fun v g => some (v, g))) := loopM_either (fun _ _ => rfl) (fun _ _ _ => rfl)
theorem eitherF3 (h : dH) : f_X7_either3 h = oI (f_X7_both3 h) (fun r g => l_X7_either3_5 (fun v g => some (v, g)) fuel0 r g) := rfl
theorem termL4 : LoopM B N P n (fun c => c = 42) (fun _ => -13) f_X7_atom4 (l_X7_term4_5 (fun v g => some (v, g))) := loopM_term (fun _ _ => rfl) (fun _ _ _ => rfl)
theorem termF4 (h : dH) : f_X7_term4 h = oI (f_X7_atom4 h) (fun r g => l_X7_term4_5 (fun v g => some (v, g)) fuel0 r g) := rfl
theorem addedL4 : LoopM B N P n (fun c => c = 43 ∨ c = 45) (fun c => if c = 43 then -11 else -12) f_X7_term4 (l_X7_added4_5 (fun v g => some (v, g))) := loopM_added (fun _ _ => rfl) (fun _ _ _ => rfl)
theorem addedF4 (h : dH) : f_X7_added4 h = oI (f_X7_term4 h) (fun r g => l_X7_added4_5 (fun v g => some (v, g)) fuel0 r g) := rfl
theorem bothL4 : LoopM B N P n (fun c => c = 308) (fun _ => -8) f_X7_not4 (l_X7_both4_5 (fun v g => some (v, g))) := loopM_both (fun _ _ => rfl) (fun _ _ _ => rfl)
theorem bothF4 (h : dH) : f_X7_both4 h = oI (f_X7_not4 h) (fun r g => l_X7_both4_5 (fun v g => some (v, g)) fuel0 r g) := rfl
theorem eitherL4 : LoopM B N P n (fun c => c = 307) (fun _ => -7) f_X7_both4 (l_X7_either4_5 (fun v g => some (v, g))) := loopM_either (fun _ _ => rfl) (fun _ _ _ => rfl)
theorem eitherF4 (h : dH) : f_X7_either4 h = oI (f_X7_both4 h) (fun r g => l_X7_either4_5 (fun v g => some (v, g)) fuel0 r g) := rfl
theorem termL5 : LoopM B N P n (fun c => c = 42) (fun _ => -13) f_X7_atom5 (l_X7_term5_5 (fun v g => some (v, g))) := loopM_term (fun _ _ => rfl) (fun _ _ _ => rfl)
theorem termF5 (h : dH) : f_X7_term5 h = oI (f_X7_atom5 h) (fun r g => l_X7_term5_5 (fun v g => some (v, g)) fuel0 r g) := rfl
theorem addedL5 : LoopM B N P n (fun c => c = 43 ∨ c = 45) (fun c => if c = 43 then -11 else -12) f_X7_term5 (l_X7_added5_5 (fun v g => some (v, g))) := loopM_added (fun _ _ => rfl) (fun _ _ _ => rfl)
theorem addedF5 (h : dH) : f_X7_added5 h = oI (f_X7_term5 h) (fun r g => l_X7_added5_5 (fun v g => some (v, g)) fuel0 r g) := rfl
theorem bothL5 : LoopM B N P n (fun c => c = 308) (fun _ => -8) f_X7_not5 (l_X7_both5_5 (fun v g => some (v, g))) := loopM_both (fun _ _ => rfl) (fun _ _ _ => rfl)
theorem bothF5 (h : dH) : f_X7_both5 h = oI (f_X7_not5 h) (fun r g => l_X7_both5_5 (fun v g => some (v, g)) fuel0 r g) := rfl
theorem eitherL5 : LoopM B N P n (fun c => c = 307) (fun _ => -7) f_X7_both5 (l_X7_either5_5 (fun v g => some (v, g))) := loopM_either (fun _ _ => rfl) (fun _ _ _ => rfl)
theorem eitherF5 (h : dH) : f_X7_either5 h = oI (f_X7_both5 h) (fun r g => l_X7_either5_5 (fun v g => some (v, g)) fuel0 r g) := rfl
end PR
end
