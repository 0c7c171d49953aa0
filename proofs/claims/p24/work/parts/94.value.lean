/-! what a text's part tells, on the class's pile -/
noncomputable section
def pileL (h : dH) (p : Nat) : Nat → List Int32
  | 0 => []
  | m + 1 => h p m :: pileL h p m
theorem pileL_len (h : dH) (p : Nat) : ∀ m, (pileL h p m).length = m
  | 0 => rfl
  | m + 1 => by rw [pileL, List.length_cons, pileL_len h p m]
theorem pileL_up {h : dH} {p j : Nat} {x : Int32} : ∀ m, m ≤ j → pileL (dU h p j x) p m = pileL h p m
  | 0, _ => rfl
  | m + 1, hm => by rw [pileL, pileL, pileL_up m (by omega), dU_ne (by omega)]
theorem pileL_push {h : dH} {p j : Nat} {x : Int32} : pileL (dU h p j x) p (j + 1) = x :: pileL h p j := by
  rw [pileL, pileL_up j (Nat.le_refl _), dU_eq]
theorem jn_or {x a b : Int32} (h : x.toInt = -7) : jnd x a b = if ¬ a.toInt = 0 ∨ ¬ b.toInt = 0 then 1 else 0 := if_pos h
theorem jn_and {x a b : Int32} (h : x.toInt = -8) : jnd x a b = if ¬ a.toInt = 0 ∧ ¬ b.toInt = 0 then 1 else 0 := (if_neg (by omega)).trans (if_pos h)
theorem jn_less {x a b : Int32} (h : x.toInt = -9) : jnd x a b = if a.toInt < b.toInt then 1 else 0 := (if_neg (by omega)).trans ((if_neg (by omega)).trans (if_pos h))
theorem jn_same {x a b : Int32} (h : x.toInt = -10) : jnd x a b = if a.toInt = b.toInt then 1 else 0 := (if_neg (by omega)).trans ((if_neg (by omega)).trans ((if_neg (by omega)).trans (if_pos h)))
theorem jn_add {x a b : Int32} (h : x.toInt = -11) : jnd x a b = a + b := (if_neg (by omega)).trans ((if_neg (by omega)).trans ((if_neg (by omega)).trans ((if_neg (by omega)).trans (if_pos h))))
theorem jn_sub {x a b : Int32} (h : x.toInt = -12) : jnd x a b = a - b := (if_neg (by omega)).trans ((if_neg (by omega)).trans ((if_neg (by omega)).trans ((if_neg (by omega)).trans ((if_neg (by omega)).trans (if_pos h)))))
theorem jn_mul {x a b : Int32} (h7 : ¬ x.toInt = -7) (h8 : ¬ x.toInt = -8) (h9 : ¬ x.toInt = -9) (h10 : ¬ x.toInt = -10) (h11 : ¬ x.toInt = -11) (h12 : ¬ x.toInt = -12) : jnd x a b = a * b := (if_neg h7).trans ((if_neg h8).trans ((if_neg h9).trans ((if_neg h10).trans ((if_neg h11).trans (if_neg h12)))))
theorem joined_ok {x a b : Int32} : Al (f_X5_joined x a b) (fun r => r = jnd x a b) := by
  unfold f_X5_joined
  refine al_ite (fun c => al_some (jn_sub c).symm) (fun c1 => al_ite (fun c => al_some (jn_add c).symm) (fun c2 => al_ite (fun c => ?_) (fun c3 => al_ite (fun c => ?_) (fun c4 => al_ite (fun c => ?_) (fun c5 => al_ite (fun c => ?_) (fun c6 => al_some (jn_mul c6 c5 c4 c3 c2 c1).symm))))))
  · exact al_ite (fun z => al_some ((jn_same c).trans (if_pos z)).symm) (fun z => al_some ((jn_same c).trans (if_neg z)).symm)
  · exact al_ite (fun z => al_some ((jn_less c).trans (if_pos z)).symm) (fun z => al_some ((jn_less c).trans (if_neg z)).symm)
  · exact al_ite (fun z => al_some ((jn_and c).trans (if_neg (by omega))).symm) (fun z => al_ite (fun y => al_some ((jn_and c).trans (if_neg (by omega))).symm) (fun y => al_some ((jn_and c).trans (if_pos ⟨z, y⟩)).symm))
  · exact al_ite (fun z => al_ite (fun y => al_some ((jn_or c).trans (if_neg (by omega))).symm) (fun y => al_some ((jn_or c).trans (if_pos (Or.inr y))).symm)) (fun z => al_some ((jn_or c).trans (if_pos (Or.inl z))).symm)
theorem tr_neg {x a : Int32} (h : x.toInt = -15) : trn x a = -a := if_pos h
theorem tr_not {x a : Int32} (h : ¬ x.toInt = -15) : trn x a = if a.toInt = 0 then 1 else 0 := if_neg h
theorem turned_ok {x a : Int32} : Al (f_X5_turned x a) (fun r => r = trn x a) := by
  unfold f_X5_turned
  exact al_ite (fun c => al_some (tr_neg c).symm) (fun c => al_ite (fun z => al_some ((tr_not c).trans (if_pos z)).symm) (fun z => al_some ((tr_not c).trans (if_neg z)).symm))
def w60 (v : Int32) : Int32 := if v.toInt < 0 then 0 else if 60 < v.toInt then 60 else v
theorem w60_min (v : Int32) : dmax 0 (dmin 60 v) = w60 v := by
  unfold dmax dmin w60
  have e60 : (60 : Int32).toInt = 60 := by decide
  have lt : ∀ a b : Int32, a < b ↔ a.toInt < b.toInt := fun a b => Int32.lt_iff_toInt_lt
  by_cases h : v < 60
  · rw [if_pos h]
    have h' := (lt _ _).mp h
    rw [e60] at h'
    by_cases z : 0 < v
    · have z' := (lt _ _).mp z
      rw [ti0] at z'
      rw [if_pos z, if_neg (by omega), if_neg (by omega)]
    · have z' : ¬ (0 : Int32).toInt < v.toInt := fun q => z ((lt _ _).mpr q)
      rw [ti0] at z'
      rw [if_neg z]
      by_cases y : v.toInt < 0
      · rw [if_pos y]
      · rw [if_neg y, if_neg (by omega)]
        apply Int32.toInt_inj.mp
        rw [ti0]; omega
  · have h' : ¬ v.toInt < (60 : Int32).toInt := fun q => h ((lt _ _).mpr q)
    rw [e60] at h'
    rw [if_neg h, if_pos (by decide), if_neg (by omega)]
    by_cases y : 60 < v.toInt
    · rw [if_pos y]
    · rw [if_neg y]
      apply Int32.toInt_inj.mp
      rw [e60]; omega
theorem w60_rng (v : Int32) : 0 ≤ (w60 v).toInt ∧ (w60 v).toInt ≤ 60 := by
  unfold w60
  by_cases h : v.toInt < 0
  · rw [if_pos h]; decide
  · rw [if_neg h]
    by_cases z : 60 < v.toInt
    · rw [if_pos z]; decide
    · rw [if_neg z]; omega
def evF (f : dH) (ta pt : Nat) (nm : Nat → Int32) : Int32 := match tEv f ta nm pt with
  | some (v :: _) => w60 v
  | _ => 0
theorem evF_rng (f : dH) (ta pt : Nat) (nm : Nat → Int32) : 0 ≤ (evF f ta pt nm).toInt ∧ (evF f ta pt nm).toInt ≤ 60 := by
  unfold evF
  cases tEv f ta nm pt with
  | none => decide
  | some l => cases l with
    | nil => decide
    | cons v r => exact w60_rng v
theorem evF_of {f : dH} {ta pt : Nat} {nm : Nat → Int32} {v : Int32} (h : tEv f ta nm pt = some [v]) : evF f ta pt nm = w60 v := by
  unfold evF
  rw [h]
/-- all but a pile -/
def pS (p : Nat) (g h : dH) : Prop := ∀ a k, ¬ a = p → g a k = h a k
theorem value_loop {ta a2 pt : Nat} {v1 : Int32} {nm : Nat → Int32} {v : Int32} {k : Int32 → dH → Option (Int32 × dH)} {P : Int32 × dH → Prop} (zt : zT ta) (hpt : v1.toInt = pt) (hpt3 : pt < 3) (ha2 : ¬ a2 = ta + 3) : ∀ (n : Nat) (v4 v5 : Int32) (h : dH), 0 ≤ v4.toInt → v4.toInt ≤ 40 → 0 ≤ v5.toInt → v5.toInt ≤ (h (ta + 2) pt).toInt → (h (ta + 2) pt).toInt ≤ 160 → (∀ k, k < 6 → h a2 k = nm k) → exR nm (h (ta + 1)) ((h (ta + 2) pt).toInt.toNat - v5.toInt.toNat) v5.toInt.toNat (pileL h (ta + 3) v4.toInt.toNat) = some [v] → (∀ (w : Int32) (g : dH), pS (ta + 3) g h → 0 ≤ w.toInt → pileL g (ta + 3) w.toInt.toNat = [v] → Al (k w g) P) → Al (l_X5_value_23 ta v1 a2 k n v4 v5 h) P
  | 0, _, _, _, _, _, _, _, _, _, _, _ => al_none
  | n + 1, v4, v5, h, p0, p1, i0, i1, i2, hnm, hex, K => by
    rw [l_X5_value_23]
    have e1 : v1.toInt.toNat = pt := by omega
    rw [e1]
    have t5 : v5.toInt < 160 → (v5 + 1).toInt = v5.toInt + 1 := fun z => i_add rfl (by decide) (by omega) (by omega)
    refine al_ite (fun _ => al_ite (fun c1 => al_ite (fun _ => ?_) (fun _ => al_none)) (fun c1 => ?_)) (fun _ => al_none)
    · have hm : (h (ta + 2) pt).toInt.toNat - v5.toInt.toNat = ((h (ta + 2) pt).toInt.toNat - (v5 + 1).toInt.toNat) + 1 := by rw [t5 (by omega)]; omega
      have hi : v5.toInt.toNat + 1 = (v5 + 1).toInt.toNat := by rw [t5 (by omega)]; omega
      rw [hm, exR, hi] at hex
      generalize hx : h (ta + 1) v5.toInt.toNat = x at hex ⊢
      cases he : ex1 nm x (pileL h (ta + 3) v4.toInt.toNat) with
      | none => rw [he] at hex; cases hex
      | some s1 =>
        rw [he] at hex
        simp only at hex
        -- one step further
        have go : ∀ (u4 : Int32) (g : dH), pS (ta + 3) g h → 0 ≤ u4.toInt → u4.toInt ≤ 40 → pileL g (ta + 3) u4.toInt.toNat = s1 → Al (l_X5_value_23 ta v1 a2 k n u4 (v5 + 1) g) P := by
          intro u4 g hg q0 q1 hs
          have g2 : g (ta + 2) pt = h (ta + 2) pt := hg _ _ (by omega)
          have g1 : g (ta + 1) = h (ta + 1) := by funext j; exact hg _ _ (by omega)
          refine value_loop (nm := nm) zt hpt hpt3 ha2 n u4 (v5 + 1) g q0 q1 (by rw [t5 (by omega)]; omega) (by rw [t5 (by omega), g2]; omega) (by rw [g2]; exact i2) (fun k hk => by rw [hg _ _ ha2]; exact hnm k hk) ?_ (fun w g' w1 w2 w3 => K w g' (fun a k q => (w1 a k q).trans (hg a k q)) w2 w3)
          rw [g1, g2, hs]
          exact hex
        unfold ex1 at he
        generalize hu : v4 + (-1) = u
        generalize hw : (-1 : Int32) - x = w9
        refine al_ite (fun c2 => al_ite (fun c3 => ?_) (fun c3 => ?_)) (fun c2 => ?_)
        · rw [if_neg (by omega), if_neg (by omega)] at he
          have tm : u.toInt = v4.toInt - 1 := by
            have tt := i_add (a := v4) (b := -1) (B := -1) rfl (by decide) (by omega) (by omega)
            rw [hu] at tt
            omega
          have tm2 : 1 ≤ v4.toInt → (u - 1).toInt = v4.toInt - 2 := fun z => by
            have tt := i_sub (a := u) (b := 1) tm (by decide) (B := 1) (by omega) (by omega)
            rw [tt]; omega
          refine al_ite (fun c4 => al_ite (fun _ => al_ite (fun _ => al_oP (fun r hr => al_ite (fun _ => al_oH' (fun g hg => ?_)) (fun _ => al_none))) (fun _ => al_none)) (fun _ => al_none)) (fun c4 => ?_)
          · obtain ⟨m, hm4⟩ : ∃ m : Nat, v4.toInt.toNat = m + 2 := ⟨v4.toInt.toNat - 2, by omega⟩
            have eu : u.toInt.toNat = m + 1 := by omega
            have eu2 : (u - 1).toInt.toNat = m := by rw [tm2 (by omega)]; omega
            rw [eu, eu2] at hr
            rw [eu2] at hg
            rw [hm4, pileL, pileL] at he
            simp only at he
            have hj := joined_ok r hr
            refine go u g (by rw [hg]; exact fun a k q => dU_ne (fun e => q e.1)) (by omega) (by omega) ?_
            rw [eu, hg, pileL_push, hj]
            exact Option.some.inj he
          · exfalso
            have : v4.toInt.toNat = 0 ∨ v4.toInt.toNat = 1 := by omega
            rcases this with z | z <;> rw [z] at he <;> cases he
        · rw [if_neg (by omega), if_pos (by omega)] at he
          have tm : 0 < v4.toInt → (v4 - 1).toInt = v4.toInt - 1 := fun z => i_sub rfl (by decide) (by omega) (by omega)
          refine al_ite (fun c4 => al_ite (fun _ => al_oP (fun r hr => al_ite (fun _ => al_oH' (fun g hg => ?_)) (fun _ => al_none))) (fun _ => al_none)) (fun c4 => ?_)
          · obtain ⟨m, hm4⟩ : ∃ m : Nat, v4.toInt.toNat = m + 1 := ⟨v4.toInt.toNat - 1, by omega⟩
            have eu : (v4 - 1).toInt.toNat = m := by rw [tm c4]; omega
            rw [eu] at hr hg
            rw [hm4, pileL] at he
            simp only at he
            have hj := turned_ok r hr
            refine go v4 g (by rw [hg]; exact fun a k q => dU_ne (fun e => q e.1)) (by omega) (by omega) ?_
            rw [hm4, hg, pileL_push, hj]
            exact Option.some.inj he
          · exfalso
            have z : v4.toInt.toNat = 0 := by omega
            rw [z] at he
            cases he
        · rw [if_pos (by omega), pileL_len] at he
          by_cases c4 : v4.toInt.toNat < 40
          · rw [if_pos c4] at he
            have t4 : (v4 + 1).toInt = v4.toInt + 1 := i_add rfl (by decide) (by omega) (by omega)
            have e4 : (v4 + 1).toInt.toNat = v4.toInt.toNat + 1 := by omega
            refine al_ite (fun _ => al_ite (fun c5 => al_ite (fun _ => al_ite (fun _ => al_oH' (fun g hg => ?_)) (fun _ => al_none)) (fun _ => al_none)) (fun c5 => al_ite (fun _ => al_oH' (fun g hg => ?_)) (fun _ => al_none))) (fun z => absurd c4 (by omega))
            · have tx : w9.toInt = -1 - x.toInt := by
                have tt := i_sub (a := -1) (b := x) (A := -1) (B := x.toInt) (by decide) rfl (by omega) (by omega)
                rw [hw] at tt
                exact tt
              rw [if_neg (by omega)] at he
              refine go (v4 + 1) g (by rw [hg]; exact fun a k q => dU_ne (fun e => q e.1)) (by omega) (by omega) ?_
              rw [e4, hg, pileL_push, hnm _ (by omega), tx]
              exact Option.some.inj he
            · rw [if_pos (by omega)] at he
              refine go (v4 + 1) g (by rw [hg]; exact fun a k q => dU_ne (fun e => q e.1)) (by omega) (by omega) ?_
              rw [e4, hg, pileL_push]
              exact Option.some.inj he
          · rw [if_neg c4] at he
            cases he
    · have z : (h (ta + 2) pt).toInt.toNat - v5.toInt.toNat = 0 := by omega
      rw [z] at hex
      exact K v4 h (fun _ _ _ => rfl) p0 (Option.some.inj hex)
theorem value_ok {ta a2 pt : Nat} {v1 : Int32} {nm : Nat → Int32} {h : dH} (zt : zT ta) (hpt : v1.toInt = pt) (hpt3 : pt < 3) (ha2 : ¬ a2 = ta + 3) (hok : tOk h ta) (hnm : ∀ k, k < 6 → h a2 k = nm k) (hev : ∃ v, tEv h ta nm pt = some [v]) : Al (f_X5_value ta v1 a2 h) (fun o => o.1 = evF h ta pt nm ∧ pS (ta + 3) o.2 h) := by
  obtain ⟨v, hv⟩ := hev
  rw [evF_of hv]
  obtain ⟨o1, o2, o3⟩ := hok pt hpt3
  unfold tEv at hv
  unfold f_X5_value
  have fin : ∀ (w : Int32) (g : dH), pS (ta + 3) g h → 0 ≤ w.toInt → pileL g (ta + 3) w.toInt.toNat = [v] → Al (if 0 < w.toInt then (some ((dmax 0 (dmin 60 (g (ta + 3) 0))), g)) else (some (0, g))) (fun o => o.1 = w60 v ∧ pS (ta + 3) o.2 h) := by
    intro w g hg hw hp
    have hl := congrArg List.length hp
    rw [pileL_len] at hl
    have hl1 : w.toInt.toNat = 1 := hl
    rw [hl1, pileL, pileL] at hp
    have e0 : g (ta + 3) 0 = v := (List.cons.inj hp).1
    refine al_ite (fun _ => al_some ⟨?_, hg⟩) (fun z => absurd hl1 (by omega))
    rw [w60_min, e0]
  refine al_ite (fun c => ?_) (fun c => al_ite (fun c2 => ?_) (fun _ => al_none))
  · have p0 : pt = 0 := by omega
    subst p0
    have a0 : tA h ta 0 = 0 := rfl
    rw [a0] at hv
    refine value_loop zt hpt (by omega) ha2 _ 0 0 h (by decide) (by decide) (by decide) (by rw [ti0]; exact o2) o3 hnm ?_ fin
    exact hv
  · have t1 : (v1 - 1).toInt = v1.toInt - 1 := i_sub rfl (by decide) (by omega) (by omega)
    have e1 : (v1 - 1).toInt.toNat = pt - 1 := by omega
    rw [e1]
    have a1 : tA h ta pt = (h (ta + 2) (pt - 1)).toInt.toNat := by unfold tA; rw [if_neg (by omega)]
    have o4 := (hok (pt - 1) (by omega)).2.1
    rw [a1] at hv o1
    unfold tB at o1
    refine value_loop zt hpt hpt3 ha2 _ 0 _ h (by decide) (by decide) o4 (by omega) o3 hnm ?_ fin
    exact hv
end
