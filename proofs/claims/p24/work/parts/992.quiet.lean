/-! quiet tables; who is seated -/
noncomputable section
def dnS (Y : zY) (y : Int32) (p : Int) : Nat → Int32
  | 0 => 0
  | m + 1 => if (yT Y m).toInt = p then dnS Y y p m + sdS Y y m else dnS Y y p m
def stS (Y : zY) (p : Int) : Nat → Int32 := cnt32 (fun k => decide ((yT Y k).toInt = p))
def qtS (Y : zY) (y : Int32) : Nat → Int32 × Int32
  | 0 => (-1, 0)
  | p + 1 => if (stS Y p (yN Y)).toInt = 0 then qtS Y y p else if (qtS Y y p).1.toInt = -1 then (Int32.ofNat p, dnS Y y p (yN Y)) else if (dnS Y y p (yN Y)).toInt < (qtS Y y p).2.toInt then (Int32.ofNat p, dnS Y y p (yN Y)) else qtS Y y p
theorem i32_of {v : Int32} {p : Nat} (h : v.toInt = p) : v = Int32.ofNat p := by
  rw [← i32_nat (v := v) (by omega), show v.toInt.toNat = p by omega]
section QC
theorem din_4 {a : Nat} (ha : zS a) {Y : zY} {y : Int32} {st : zT2} (W : Wf (yN Y) st) {v1 : Int32} {h0 : dH} : ∀ (n : Nat) (v2 v3 : Int32) (h : dH), 0 ≤ v3.toInt → v3.toInt ≤ yN Y → v2 = dnS Y y v1.toInt v3.toInt.toNat → SC a Y y st h → nFr a h h0 → Al (l_X3_dinAt_4 a v1 (fun v g => some (v, g)) n v2 v3 h) (fun o => o.1 = dnS Y y v1.toInt (yN Y) ∧ SC a Y y st o.2 ∧ nFr a o.2 h0)
  | 0, _, _, _, _, _, _, _, _ => al_none
  | n + 1, v2, v3, h, p0, p1, e, H, F => by
    obtain ⟨H0, H1, H2, H3, H4, H5, -⟩ := id H
    rw [l_X3_dinAt_4, H2]
    have t := inc1 (v := v3) (by omega)
    have en : (v3 + 1).toInt.toNat = v3.toInt.toNat + 1 := by omega
    refine al_ite (fun c => al_ite (fun _ => ?_) (fun _ => al_none)) (fun c => al_some ⟨by rw [e, show v3.toInt.toNat = yN Y by omega], H, F⟩)
    rw [(H4 v3.toInt.toNat (by omega)).2.2]
    refine al_ite (fun z => al_oI (fun r g hr => ?_)) (fun z => ?_)
    · obtain ⟨x1, x2⟩ := sounds_ok ha H (i := v3.toInt.toNat) (by omega) (by omega) (W.2 _ (by omega)) (r, g) hr
      simp only at x1 x2
      exact din_4 ha W n _ (v3 + 1) g (by omega) (by omega) (by rw [en, dnS, if_pos z, e, x1]) (H.n ha x2) (x2.trans F)
    · exact din_4 ha W n _ (v3 + 1) h (by omega) (by omega) (by rw [en, dnS, if_neg z, e]) H F
theorem quiet_6 {a : Nat} (ha : zS a) {Y : zY} {y : Int32} {st : zT2} (W : Wf (yN Y) st) {h0 : dH} : ∀ (n : Nat) (v1 v2 v3 : Int32) (h : dH), 0 ≤ v3.toInt → v3.toInt ≤ 4 → v1 = (qtS Y y v3.toInt.toNat).1 → v2 = (qtS Y y v3.toInt.toNat).2 → SC a Y y st h → nFr a h h0 → Al (l_X3_quietTable_6 a (fun v g => some (v, g)) n v1 v2 v3 h) (fun o => o.1 = (qtS Y y 4).1 ∧ nFr a o.2 h0)
  | 0, _, _, _, _, _, _, _, _, _, _ => al_none
  | n + 1, v1, v2, v3, h, p0, p1, e1, e2, H, F => by
    rw [l_X3_quietTable_6]
    have t := inc1 (v := v3) (by omega)
    have en : (v3 + 1).toInt.toNat = v3.toInt.toNat + 1 := by omega
    obtain ⟨p, hp⟩ : ∃ p, v3.toInt.toNat = p := ⟨_, rfl⟩
    have hp' : v3.toInt = p := by omega
    rw [hp] at en e1 e2
    refine al_ite (fun c => al_oP (fun r3 hr3 => ?_)) (fun c => al_some ⟨by rw [e1, show p = 4 by omega], F⟩)
    have s3 := seatsAt_ok H r3 hr3
    rw [if_neg (by omega), hp'] at s3
    have s3' : r3 = stS Y p (yN Y) := s3
    have q1 : (stS Y p (yN Y)).toInt = 0 → qtS Y y (p + 1) = qtS Y y p := fun z => by rw [qtS, if_pos z]
    refine al_ite (fun z => quiet_6 ha W n _ _ (v3 + 1) h (by omega) (by omega) (by rw [en, q1 (by rw [← s3']; exact z), e1]) (by rw [en, q1 (by rw [← s3']; exact z), e2]) H F) (fun z => al_oI (fun r6 g7 hr6 => ?_))
    obtain ⟨d1, d2, d3⟩ := din_4 ha W (v1 := v3) fuel0 0 0 h (by decide) (by rw [ti0]; omega) rfl H F (r6, g7) hr6
    simp only at d1 d2 d3
    rw [hp'] at d1
    have z' : ¬ (stS Y p (yN Y)).toInt = 0 := by rw [← s3']; exact z
    have ev := i32_of hp'
    refine al_ite (fun u => ?_) (fun u => al_ite (fun w => ?_) (fun w => ?_))
    · have q2 : qtS Y y (p + 1) = (Int32.ofNat p, dnS Y y p (yN Y)) := by rw [qtS, if_neg z', if_pos (by rw [← e1]; exact u)]
      exact quiet_6 ha W n _ _ (v3 + 1) g7 (by omega) (by omega) (by rw [en, q2, ev]) (by rw [en, q2, d1]) d2 d3
    · have q2 : qtS Y y (p + 1) = (Int32.ofNat p, dnS Y y p (yN Y)) := by rw [qtS, if_neg z', if_neg (by rw [← e1]; exact u), if_pos (by rw [← e2, ← d1]; exact w)]
      exact quiet_6 ha W n _ _ (v3 + 1) g7 (by omega) (by omega) (by rw [en, q2, ev]) (by rw [en, q2, d1]) d2 d3
    · have q2 : qtS Y y (p + 1) = qtS Y y p := by rw [qtS, if_neg z', if_neg (by rw [← e1]; exact u), if_neg (by rw [← e2, ← d1]; exact w)]
      exact quiet_6 ha W n _ _ (v3 + 1) g7 (by omega) (by omega) (by rw [en, q2, e1]) (by rw [en, q2, e2]) d2 d3
theorem quiet_ok {a : Nat} (ha : zS a) {Y : zY} {y : Int32} {st : zT2} (W : Wf (yN Y) st) {h : dH} (H : SC a Y y st h) : Al (f_X3_quietTable a h) (fun o => o.1 = (qtS Y y 4).1 ∧ nFr a o.2 h) := by
  refine quiet_6 ha W _ (-1) 0 0 h (by decide) (by decide) ?_ ?_ H (nFr.refl _ _)
  · rw [ti0]; rfl
  · rw [ti0]; rfl
end QC
theorem quiet_20 {Y : zY} {y : Int32} {st : zT2} {v3 : Int32} {h0 : dH} {k : Int32 → Int32 → dH → Option (Int32 × dH)} {P : Int32 × dH → Prop} (K : ∀ g, SM Y y st g → mFr g h0 → Al (k (stS Y v3.toInt (yN Y)) (dnS Y y v3.toInt (yN Y)) g) P) : ∀ (n : Nat) (v4 v5 v6 : Int32) (h : dH), 0 ≤ v6.toInt → v6.toInt ≤ yN Y → v4 = stS Y v3.toInt v6.toInt.toNat → v5 = dnS Y y v3.toInt v6.toInt.toNat → SM Y y st h → mFr h h0 → Al (l_X7_quietest_20 v3 k n v4 v5 v6 h) P
  | 0, _, _, _, _, _, _, _, _, _, _ => al_none
  | n + 1, v4, v5, v6, h, p0, p1, e4, e5, H, F => by
    obtain ⟨H0, H1, H2, H3, H4, H5, -⟩ := id H
    rw [l_X7_quietest_20, H2]
    have t := inc1 (v := v6) (by omega)
    have en : (v6 + 1).toInt.toNat = v6.toInt.toNat + 1 := by omega
    refine al_ite (fun c => al_ite (fun _ => ?_) (fun _ => al_none)) (fun c => ?_)
    · rw [(H4 v6.toInt.toNat (by omega)).2.2]
      refine al_ite (fun z => al_oI (fun r g hr => ?_)) (fun z => ?_)
      · obtain ⟨x1, x2⟩ := soundsOf_ok H (i := v6.toInt.toNat) (by omega) (by omega) (r, g) hr
        simp only at x1 x2
        refine quiet_20 K n _ _ (v6 + 1) g (by omega) (by omega) ?_ (by rw [en, dnS, if_pos z, e5, x1]) (H.n x2) (x2.trans F)
        rw [en]
        unfold stS at e4 ⊢
        rw [cnt32, if_pos (decide_eq_true z), e4]
      · refine quiet_20 K n _ _ (v6 + 1) h (by omega) (by omega) ?_ (by rw [en, dnS, if_neg z, e5]) H F
        rw [en]
        unfold stS at e4 ⊢
        rw [cnt32, if_neg (by rw [decide_eq_true_eq]; exact z), e4]
    · rw [e4, e5, show v6.toInt.toNat = yN Y by omega]
      exact K h H F
theorem quietest_6 {Y : zY} {y : Int32} {st : zT2} {h0 : dH} : ∀ (n : Nat) (v1 v2 v3 : Int32) (h : dH), 0 ≤ v3.toInt → v3.toInt ≤ 4 → v1 = (qtS Y y v3.toInt.toNat).1 → v2 = (qtS Y y v3.toInt.toNat).2 → SM Y y st h → mFr h h0 → Al (l_X7_quietest_6 (fun v g => some (v, g)) n v1 v2 v3 h) (fun o => o.1 = (qtS Y y 4).1 ∧ mFr o.2 h0)
  | 0, _, _, _, _, _, _, _, _, _, _ => al_none
  | n + 1, v1, v2, v3, h, p0, p1, e1, e2, H, F => by
    have hN8 := H.2.2.2.1
    rw [l_X7_quietest_6]
    have t := inc1 (v := v3) (by omega)
    have en : (v3 + 1).toInt.toNat = v3.toInt.toNat + 1 := by omega
    obtain ⟨p, hp⟩ : ∃ p, v3.toInt.toNat = p := ⟨_, rfl⟩
    have hp' : v3.toInt = p := by omega
    rw [hp] at en e1 e2
    refine al_ite (fun c => ?_) (fun c => al_some ⟨by rw [e1, show p = 4 by omega], F⟩)
    refine quiet_20 (st := st) (y := y) (Y := Y) (h0 := h0) (fun g G gF => ?_) _ 0 0 0 h (by decide) (by rw [ti0]; omega) rfl rfl H F
    rw [hp']
    have rg : 0 ≤ (stS Y p (yN Y)).toInt := (cnt32_rng _ _ (by omega)).1
    have ev := i32_of hp'
    refine al_ite (fun z => al_ite (fun u => ?_) (fun u => al_ite (fun w => ?_) (fun w => ?_))) (fun z => ?_)
    · have q2 : qtS Y y (p + 1) = (Int32.ofNat p, dnS Y y p (yN Y)) := by rw [qtS, if_neg (by omega), if_pos (by rw [← e1]; exact u)]
      exact quietest_6 n _ _ (v3 + 1) g (by omega) (by omega) (by rw [en, q2, ev]) (by rw [en, q2]) G gF
    · have q2 : qtS Y y (p + 1) = (Int32.ofNat p, dnS Y y p (yN Y)) := by rw [qtS, if_neg (by omega), if_neg (by rw [← e1]; exact u), if_pos (by rw [← e2]; exact w)]
      exact quietest_6 n _ _ (v3 + 1) g (by omega) (by omega) (by rw [en, q2, ev]) (by rw [en, q2]) G gF
    · have q2 : qtS Y y (p + 1) = qtS Y y p := by rw [qtS, if_neg (by omega), if_neg (by rw [← e1]; exact u), if_neg (by rw [← e2]; exact w)]
      exact quietest_6 n _ _ (v3 + 1) g (by omega) (by omega) (by rw [en, q2, e1]) (by rw [en, q2, e2]) G gF
    · have q2 : qtS Y y (p + 1) = qtS Y y p := by rw [qtS, if_pos (by omega)]
      exact quietest_6 n _ _ (v3 + 1) g (by omega) (by omega) (by rw [en, q2, e1]) (by rw [en, q2, e2]) G gF
theorem quietest_ok {Y : zY} {y : Int32} {st : zT2} {h : dH} (H : SM Y y st h) : Al (f_X7_quietest h) (fun o => o.1 = (qtS Y y 4).1 ∧ mFr o.2 h) := by
  refine quietest_6 _ (-1) 0 0 h (by decide) (by decide) ?_ ?_ H (mFr.refl _)
  · rw [ti0]; rfl
  · rw [ti0]; rfl
/-! seated -/
/-- tables are 0 .. 3, or none -/
def Tr (Y : zY) : Prop := ∀ i, i < yN Y → -1 ≤ (yT Y i).toInt ∧ (yT Y i).toInt ≤ 3
def seS (Y : zY) : Int32 := cnt32 (fun k => decide (¬ (yT Y k).toInt = -1)) (yN Y)
theorem four_sum {Y : zY} (hT : Tr Y) : ∀ m, m ≤ yN Y → m ≤ 8 → (stS Y 0 m).toInt + (stS Y 1 m).toInt + (stS Y 2 m).toInt + (stS Y 3 m).toInt = (cnt32 (fun k => decide (¬ (yT Y k).toInt = -1)) m).toInt
  | 0, _, _ => by
    unfold stS
    rw [cnt32, cnt32, cnt32, cnt32, cnt32, ti0]; rfl
  | m + 1, h1, h2 => by
    have ih := four_sum hT m (by omega) (by omega)
    have r : ∀ f, 0 ≤ (cnt32 f m).toInt ∧ (cnt32 f m).toInt ≤ m := fun f => cnt32_rng f m (by omega)
    have one : ∀ f, (cnt32 f m + 1).toInt = (cnt32 f m).toInt + 1 := fun f => by have := r f; exact inc1 (by omega)
    have tr := hT m (by omega)
    unfold stS at ih ⊢
    have st : ∀ (p : Int) , (cnt32 (fun k => decide ((yT Y k).toInt = p)) (m + 1)).toInt = (cnt32 (fun k => decide ((yT Y k).toInt = p)) m).toInt + (if (yT Y m).toInt = p then 1 else 0) := by
      intro p
      rw [cnt32]
      by_cases c : (yT Y m).toInt = p
      · rw [if_pos (decide_eq_true c), if_pos c, one]
      · rw [if_neg (by rw [decide_eq_true_eq]; exact c), if_neg c, Int.add_zero]
    have st2 : (cnt32 (fun k => decide (¬ (yT Y k).toInt = -1)) (m + 1)).toInt = (cnt32 (fun k => decide (¬ (yT Y k).toInt = -1)) m).toInt + (if (yT Y m).toInt = -1 then 0 else 1) := by
      rw [cnt32]
      by_cases c : (yT Y m).toInt = -1
      · rw [if_neg (by rw [decide_eq_true_eq]; exact fun z => z c), if_pos c, Int.add_zero]
      · rw [if_pos (decide_eq_true c), if_neg c, one]
    rw [st, st, st, st, st2]
    have : (yT Y m).toInt = -1 ∨ (yT Y m).toInt = 0 ∨ (yT Y m).toInt = 1 ∨ (yT Y m).toInt = 2 ∨ (yT Y m).toInt = 3 := by omega
    rcases this with q | q | q | q | q <;> simp only [q] <;> simp only [reduceIte, show ¬ ((-1 : Int) = 0) by decide, show ¬ ((-1 : Int) = 1) by decide, show ¬ ((-1 : Int) = 2) by decide, show ¬ ((-1 : Int) = 3) by decide, show ¬ ((0 : Int) = 1) by decide, show ¬ ((0 : Int) = 2) by decide, show ¬ ((0 : Int) = 3) by decide, show ¬ ((0 : Int) = -1) by decide, show ¬ ((1 : Int) = 0) by decide, show ¬ ((1 : Int) = 2) by decide, show ¬ ((1 : Int) = 3) by decide, show ¬ ((1 : Int) = -1) by decide, show ¬ ((2 : Int) = 0) by decide, show ¬ ((2 : Int) = 1) by decide, show ¬ ((2 : Int) = 3) by decide, show ¬ ((2 : Int) = -1) by decide, show ¬ ((3 : Int) = 0) by decide, show ¬ ((3 : Int) = 1) by decide, show ¬ ((3 : Int) = 2) by decide, show ¬ ((3 : Int) = -1) by decide] <;> omega
def sm4 (Y : zY) : Nat → Int32
  | 0 => 0
  | p + 1 => sm4 Y p + stS Y p (yN Y)
theorem sm4_ok {Y : zY} (hT : Tr Y) (hN : yN Y ≤ 8) : sm4 Y 4 = seS Y := by
  have r : ∀ p, 0 ≤ (stS Y p (yN Y)).toInt ∧ (stS Y p (yN Y)).toInt ≤ 8 := fun p => by
    have := cnt32_rng (fun k => decide ((yT Y k).toInt = p)) (yN Y) (by omega)
    unfold stS
    omega
  have r0 := r 0
  have r1 := r 1
  have r2 := r 2
  have r3 := r 3
  have f := four_sum hT (yN Y) (Nat.le_refl _) hN
  apply Int32.toInt_inj.mp
  show (0 + stS Y (0 : Nat) (yN Y) + stS Y (1 : Nat) (yN Y) + stS Y (2 : Nat) (yN Y) + stS Y (3 : Nat) (yN Y)).toInt = _
  unfold seS
  rw [← f]
  have a1 : (0 + stS Y (0 : Nat) (yN Y)).toInt = 0 + (stS Y 0 (yN Y)).toInt := i_add ti0 rfl (by omega) (by omega)
  have a2 : (0 + stS Y (0 : Nat) (yN Y) + stS Y (1 : Nat) (yN Y)).toInt = 0 + (stS Y 0 (yN Y)).toInt + (stS Y 1 (yN Y)).toInt := i_add a1 rfl (by omega) (by omega)
  have a3 : (0 + stS Y (0 : Nat) (yN Y) + stS Y (1 : Nat) (yN Y) + stS Y (2 : Nat) (yN Y)).toInt = 0 + (stS Y 0 (yN Y)).toInt + (stS Y 1 (yN Y)).toInt + (stS Y 2 (yN Y)).toInt := i_add a2 rfl (by omega) (by omega)
  have a4 : (0 + stS Y (0 : Nat) (yN Y) + stS Y (1 : Nat) (yN Y) + stS Y (2 : Nat) (yN Y) + stS Y (3 : Nat) (yN Y)).toInt = 0 + (stS Y 0 (yN Y)).toInt + (stS Y 1 (yN Y)).toInt + (stS Y 2 (yN Y)).toInt + (stS Y 3 (yN Y)).toInt := i_add a3 rfl (by omega) (by omega)
  rw [a4]; omega
theorem seated_4 {a : Nat} {Y : zY} {y : Int32} {st : zT2} {h : dH} (H : SC a Y y st h) : ∀ (n : Nat) (v1 v2 : Int32), 0 ≤ v2.toInt → v2.toInt ≤ 4 → v1 = sm4 Y v2.toInt.toNat → Al (l_X3_seated_4 a h (fun v => some v) n v1 v2) (fun r => r = sm4 Y 4)
  | 0, _, _, _, _, _ => al_none
  | n + 1, v1, v2, p0, p1, e => by
    rw [l_X3_seated_4]
    have t := inc1 (v := v2) (by omega)
    have en : (v2 + 1).toInt.toNat = v2.toInt.toNat + 1 := by omega
    refine al_ite (fun c => al_oP (fun r hr => ?_)) (fun c => al_some (by rw [e, show v2.toInt.toNat = 4 by omega]))
    have s := seatsAt_ok H r hr
    rw [if_neg (by omega), show v2.toInt = ((v2.toInt.toNat : Nat) : Int) by omega] at s
    exact seated_4 H n _ _ (by omega) (by omega) (by rw [en, sm4, e, s]; rfl)
theorem seated_ok {a : Nat} {Y : zY} {y : Int32} {st : zT2} {h : dH} (H : SC a Y y st h) (hT : Tr Y) : Al (f_X3_seated a h) (fun r => r = seS Y) := by
  rw [← sm4_ok hT H.2.2.2.1]
  exact seated_4 H _ 0 0 (by decide) (by decide) rfl
end
