/-! all levels, depth by depth -/
noncomputable section
def tAtom5 (h : dH) : Option (Int32 × dH) := oP (f_X7_isSign 45 h) (fun r1 => if r1.toInt = 0 then (oP (f_X7_isSign 40 h) (fun r4 => if r4.toInt = 0 then (if (h 0 27).toInt = 0 then (if (h 0 23).toInt = 2 then (oV (f_X7_next  h) (fun g11 => some ((h 0 25).toInt64.toInt32, g11))) else (if (h 0 27).toInt = 0 then (if (h 0 23).toInt = 1 then (oI (f_X7_name  h) (fun r16 g17 => if (g17 0 27).toInt = 0 then (oV (f_X7_next  g17) (fun g20 => some (r16, g20))) else (some (r16, g17)))) else (oV (f_X7_fail  h) (fun g21 => some (0, g21)))) else (oV (f_X7_fail  h) (fun g22 => some (0, g22))))) else (if (h 0 27).toInt = 0 then (if (h 0 23).toInt = 1 then (oI (f_X7_name  h) (fun r27 g28 => if (g28 0 27).toInt = 0 then (oV (f_X7_next  g28) (fun g31 => some (r27, g31))) else (some (r27, g28)))) else (oV (f_X7_fail  h) (fun g32 => some (0, g32)))) else (oV (f_X7_fail  h) (fun g33 => some (0, g33))))) else (oI (f_X7_opens  h) (fun _ g35 => some (0, g35))))) else (oI (f_X7_opens  h) (fun _ g37 => some (0, g37))))
theorem atom5_t (h : dH) : f_X7_atom5 h = tAtom5 h := rfl
section PR
variable {B : Nat → Int} {N : Nat} {P : Nat → Nat} {n : Nat} {i k : Nat} {c : Int} {s e : Nat} {w : Int} {g h : dH}
/-- what opens is a fault -/
theorem open5 (hs : St B N P n 5 i g h) (G : Good B N P n i c s e w g h) (hc : ¬ c = 300) (he : (h 0 22).toInt = e) {v : Int32} (hv : v.toInt = 5) {T : dH → Option dH} : Al (oI (f_X1_opens v g) (fun r13 g14 => if r13.toInt = 0 then (some g14) else T g14)) (fun f => ∀ o, oI (f_X7_opens h) (fun _ g53 => some ((0 : Int32), g53)) = some o → Out B N P n 5 1 i g h f o) := by
  refine al_oI (fun a g14 ha => ?_)
  intro f hf
  refine al_oI (fun b g53 hb => ?_)
  obtain ⟨r, mm, q⟩ := opens_ok hs G hc he (by omega) hv ha hb
  simp only at r mm q
  rcases q with ⟨k1, -⟩ | ⟨-, a1, b1, bd, k26⟩
  · omega
  · rw [if_pos a1] at hf
    cases hf
    exact al_some (Out.bad r.pF mm k26 bd)
theorem one_five {m : Nat} (n' : Nat) {v : Int32} (hv : v.toInt = 5) (hs : St B N P n 5 i g h) : Al (f_X1_readOne (f_X1_read m) n' v g) (fun f => ∀ o, tAtom5 h = some o → Out B N P n 5 1 i g h f o) := by
  cases n' with
  | zero => exact al_none
  | succ n' =>
    obtain ⟨c, s, e, w, G⟩ := hs.1
    intro f hf
    have cl := one_cls G f hf
    have b27 := G.2.2.2.2.2.2.1
    have m2 := G.2.2.2.2.2.2.2.2.2.2.2.2.2.1.2
    have cl1 : (c = 302 ∨ c = 303) → ∃ g4, f_X5_write (dtx (g 42 1)) (g 4 i) g = some g4 ∧ f_X1_next g4 = some f := fun z => by
      rcases cl with q | q | q | q
      · exact q.2
      · omega
      · omega
      · omega
    have clf : ¬ c = 302 → ¬ c = 303 → ¬ c = 45 → ¬ c = 40 → f_X1_fail g = some f := fun z1 z2 z3 z4 => by
      rcases cl with q | q | q | q
      · omega
      · exact absurd q.1 z3
      · exact absurd q.1 z4
      · exact q.2.2.2.2
    unfold tAtom5
    refine al_oP (fun r1 hr1 => ?_)
    have s1 := G.sign (v := 45) (by unfold isSg; decide) r1 hr1
    rw [show (45 : Int32).toInt = 45 by decide] at s1
    refine al_ite (fun c1 => al_oP (fun r4 hr4 => ?_)) (fun c1 => ?_)
    · have s2 := G.sign (v := 40) (by unfold isSg; decide) r4 hr4
      rw [show (40 : Int32).toInt = 40 by decide] at s2
      refine al_ite (fun c4 => al_ite (fun _ => al_ite (fun c2 => num_case hs G c2 cl1) (fun c2 => al_ite (fun _ => al_ite (fun c3 => word_case hs G c3 cl1 clf) (fun c3 => fail_case hs G (clf ?_ ?_ ?_ ?_))) (fun z => absurd b27 z))) (fun z => absurd b27 z)) (fun c4 => ?_)
      · unfold isSg at m2; omega
      · unfold isSg at m2; omega
      · omega
      · omega
      · have hc : c = 40 := by omega
        subst hc
        rcases cl with q | q | q | q
        · omega
        · omega
        · exact open5 hs G (by omega) (G.here (Or.inr (Or.inr (by unfold isSg; omega)))) hv f q.2
        · omega
    · have hc : c = 45 := by omega
      subst hc
      rcases cl with q | q | q | q
      · omega
      · exact open5 hs G (by omega) (G.here (Or.inr (Or.inr (by unfold isSg; omega)))) hv f q.2
      · omega
      · omega
theorem Rd.mono {m lv D D' : Nat} {S : dH → Option (Int32 × dH)} (hS : Rd B N P n k m lv D S) (hDD : D ≤ D') : Rd B N P n k m lv D' S := fun u v g h i f o a1 a2 a3 a4 a5 => (hS u v g h i f o a1 a2 a3 a4 a5).mono hDD
variable (B N P n k) in
/-- all levels at one depth -/
def Dep (At Te Ad No Bo Ei : dH → Option (Int32 × dH)) : Prop := ∀ m : Nat, (∀ (n' : Nat) (v : Int32) (g h : dH) (i : Nat) (f : dH) (o : Int32 × dH), v.toInt = k → St B N P n k i g h → f_X1_readOne (f_X1_read m) n' v g = some f → At h = some o → Out B N P n k (1 + 5 * (5 - k)) i g h f o) ∧ Rd B N P n k m 5 (1 + 5 * (5 - k)) At ∧ Rd B N P n k m 4 (1 + 5 * (5 - k) + 1) Te ∧ Rd B N P n k m 3 (1 + 5 * (5 - k) + 1 + 1) Ad ∧ Rd B N P n k m 2 (1 + 5 * (5 - k) + 1 + 1 + 1) No ∧ Rd B N P n k m 1 (1 + 5 * (5 - k) + 1 + 1 + 1 + 1) Bo ∧ Rd B N P n k m 0 (1 + 5 * (5 - k) + 1 + 1 + 1 + 1 + 1) Ei
theorem Dep.of {At Te Ad No Bo Ei : dH → Option (Int32 × dH)} {TL AL BL EL : Nat → Int32 → dH → Option (Int32 × dH)} (hOne : ∀ (m n' : Nat) (v : Int32) (g h : dH) (i : Nat) (f : dH) (o : Int32 × dH), v.toInt = k → St B N P n k i g h → f_X1_readOne (f_X1_read m) n' v g = some f → At h = some o → Out B N P n k (1 + 5 * (5 - k)) i g h f o) (hNot : ∀ m, Rd B N P n k m 3 (1 + 5 * (5 - k) + 1 + 1) Ad → Rd B N P n k (m + 1) 2 (1 + 5 * (5 - k) + 1 + 1 + 1) No) (hT : LoopM B N P n (fun c => c = 42) (fun _ => -13) At TL) (hTe : ∀ h, Te h = oI (At h) (fun r g => TL fuel0 r g)) (hA : LoopM B N P n (fun c => c = 43 ∨ c = 45) (fun c => if c = 43 then -11 else -12) Te AL) (hAd : ∀ h, Ad h = oI (Te h) (fun r g => AL fuel0 r g)) (hB : LoopM B N P n (fun c => c = 308) (fun _ => -8) No BL) (hBo : ∀ h, Bo h = oI (No h) (fun r g => BL fuel0 r g)) (hE : LoopM B N P n (fun c => c = 307) (fun _ => -7) Bo EL) (hEi : ∀ h, Ei h = oI (Bo h) (fun r g => EL fuel0 r g)) : Dep B N P n k At Te Ad No Bo Ei := by
  intro m
  refine ⟨hOne m, ?_⟩
  induction m with
  | zero => exact ⟨Rd.zero, Rd.zero, Rd.zero, Rd.zero, Rd.zero, Rd.zero⟩
  | succ m ih =>
    obtain ⟨i5, i4, i3, i2, i1, i0⟩ := ih
    exact ⟨Rd.one (hOne m), Rd.term i5 hT hTe, Rd.added i4 hA hAd, hNot m i3, Rd.both i2 hB hBo, Rd.either i1 hE hEi⟩
theorem Dep.step (hk : k < 5) {At Te Ad No Bo Ei At' Te' Ad' No' Bo' Ei' : dH → Option (Int32 × dH)} {TL AL BL EL : Nat → Int32 → dH → Option (Int32 × dH)} (hD : Dep B N P n (k + 1) At' Te' Ad' No' Bo' Ei') (hAt : ∀ h, At h = tAtom Ei' At' h) (hNo : ∀ h, No h = tNot Ad No' h) (hT : LoopM B N P n (fun c => c = 42) (fun _ => -13) At TL) (hTe : ∀ h, Te h = oI (At h) (fun r g => TL fuel0 r g)) (hA : LoopM B N P n (fun c => c = 43 ∨ c = 45) (fun c => if c = 43 then -11 else -12) Te AL) (hAd : ∀ h, Ad h = oI (Te h) (fun r g => AL fuel0 r g)) (hB : LoopM B N P n (fun c => c = 308) (fun _ => -8) No BL) (hBo : ∀ h, Bo h = oI (No h) (fun r g => BL fuel0 r g)) (hE : LoopM B N P n (fun c => c = 307) (fun _ => -7) Bo EL) (hEi : ∀ h, Ei h = oI (Bo h) (fun r g => EL fuel0 r g)) : Dep B N P n k At Te Ad No Bo Ei := by
  refine Dep.of (fun m n' v g h i f o hv hs hf ho => ?_) (fun m h3 => ?_) hT hTe hA hAd hB hBo hE hEi
  · obtain ⟨q1, -, -, -, -, -, q0⟩ := hD m
    rw [hAt] at ho
    refine one_gen hk (E := Ei') (A := At') (fun v1 v2 g h i f o z1 z2 z3 z4 z5 => ?_) (fun n' v g h i f o z2 z3 z4 z5 => q1 n' v g h i f o (by omega) z3 z4 z5) n' hv hs f hf o ho
    exact ((q0 v1 v2 g h i f o (by omega) (by omega) z3 z4 z5)).mono (by omega)
  · obtain ⟨-, -, -, -, q2, -, -⟩ := hD m
    exact Rd.not hk (by omega) h3 q2 hNo
theorem dep5 : Dep B N P n 5 f_X7_atom5 f_X7_term5 f_X7_added5 f_X7_not5 f_X7_both5 f_X7_either5 :=
  Dep.of (fun m n' v g h i f o hv hs hf ho => by
    rw [atom5_t] at ho
    exact one_five n' hv hs f hf o ho) (fun m h3 => Rd.not5 h3 not5_t) termL5 termF5 addedL5 addedF5 bothL5 bothF5 eitherL5 eitherF5
theorem dep4 : Dep B N P n 4 f_X7_atom4 f_X7_term4 f_X7_added4 f_X7_not4 f_X7_both4 f_X7_either4 := Dep.step (by omega) dep5 atom4_t not4_t termL4 termF4 addedL4 addedF4 bothL4 bothF4 eitherL4 eitherF4
theorem dep3 : Dep B N P n 3 f_X7_atom3 f_X7_term3 f_X7_added3 f_X7_not3 f_X7_both3 f_X7_either3 := Dep.step (by omega) dep4 atom3_t not3_t termL3 termF3 addedL3 addedF3 bothL3 bothF3 eitherL3 eitherF3
theorem dep2 : Dep B N P n 2 f_X7_atom2 f_X7_term2 f_X7_added2 f_X7_not2 f_X7_both2 f_X7_either2 := Dep.step (by omega) dep3 atom2_t not2_t termL2 termF2 addedL2 addedF2 bothL2 bothF2 eitherL2 eitherF2
theorem dep1 : Dep B N P n 1 f_X7_atom1 f_X7_term1 f_X7_added1 f_X7_not1 f_X7_both1 f_X7_either1 := Dep.step (by omega) dep2 atom1_t not1_t termL1 termF1 addedL1 addedF1 bothL1 bothF1 eitherL1 eitherF1
theorem dep0 : Dep B N P n 0 f_X7_atom0 f_X7_term0 f_X7_added0 f_X7_not0 f_X7_both0 f_X7_either0 := Dep.step (by omega) dep1 atom0_t not0_t termL0 termF0 addedL0 addedF0 bothL0 bothF0 eitherL0 eitherF0
/-- a whole E -/
theorem e_ok (m : Nat) : Rd B N P n 0 m 0 31 f_X7_either0 := (dep0 m).2.2.2.2.2.2
end PR
end
