/-! small questions, on both sides -/
noncomputable section
theorem al_in {α : Type} {v : Int32} {A B : Int64} {f : Int32 → Option α} {P : α → Prop} (k : ∀ r : Int32, ((r.toInt = 0 ∧ (v.toInt < A.toInt ∨ B.toInt < v.toInt)) ∨ (r.toInt = 1 ∧ A.toInt ≤ v.toInt ∧ v.toInt ≤ B.toInt)) → Al (f r) P) : Al (oP (f_X7_in v.toInt64 A B) f) P := by
  refine al_oP (fun r hr => k r ?_)
  have q := in7 hr
  rw [l_i2l] at q
  exact q
/-- whether it is a house -/
def hsQ (N : Nat) (v r : Int32) : Prop := (r.toInt = 0 ∧ (v.toInt < 0 ∨ N ≤ v.toInt)) ∨ (r.toInt = 1 ∧ 0 ≤ v.toInt ∧ v.toInt < N)
theorem house7 {N : Nat} {h : dH} (hN : (h 0 13).toInt = N) (hN8 : N ≤ 8) {v : Int32} : Al (f_X7_isHouse v h) (fun r => hsQ N v r) := by
  unfold f_X7_isHouse
  have e : (((h 0 13) - 1).toInt64).toInt = (N : Int) - 1 := by
    rw [l_i2l]
    exact i_sub hN ti1 (by omega) (by omega)
  have z : (0 : Int64).toInt = 0 := by decide
  refine al_in (fun r q => al_ite (fun _ => al_some ?_) (fun _ => al_none))
  rw [e, z] at q
  unfold hsQ
  omega
theorem house6 {N : Nat} {h : dH} (hN : (h 43 2).toInt = N) {v : Int32} : Al (f_X6_isHouse v h) (fun r => hsQ N v r) := by
  unfold f_X6_isHouse hsQ
  rw [hN]
  exact al_ite (fun c => al_some (by rw [ti0]; omega)) (fun c => al_ite (fun d => al_some (by rw [ti1]; omega)) (fun d => al_some (by rw [ti0]; omega)))
def twQ (N : Nat) (v w r : Int32) : Prop := (r.toInt = 0 ∧ ¬ (0 ≤ v.toInt ∧ v.toInt < N ∧ 0 ≤ w.toInt ∧ w.toInt < N ∧ ¬ v.toInt = w.toInt)) ∨ (r.toInt = 1 ∧ 0 ≤ v.toInt ∧ v.toInt < N ∧ 0 ≤ w.toInt ∧ w.toInt < N ∧ ¬ v.toInt = w.toInt)
theorem two7 {N : Nat} {h : dH} (hN : (h 0 13).toInt = N) (hN8 : N ≤ 8) {v w : Int32} : Al (f_X7_areTwo v w h) (fun r => twQ N v w r) := by
  unfold f_X7_areTwo
  refine al_oP (fun r1 h1 => ?_)
  have q1 := house7 hN hN8 r1 h1
  unfold hsQ at q1
  refine al_ite (fun c => al_some (by unfold twQ; rw [ti0]; omega)) (fun c => al_oP (fun r2 h2 => ?_))
  have q2 := house7 hN hN8 r2 h2
  unfold hsQ at q2
  refine al_ite (fun d => al_some (by unfold twQ; rw [ti0]; omega)) (fun d => al_ite (fun e => al_some (by unfold twQ; rw [ti0]; omega)) (fun e => al_some (by unfold twQ; rw [ti1]; omega)))
theorem two6 {N : Nat} {h : dH} (hN : (h 43 2).toInt = N) {v w : Int32} : Al (f_X6_isTwo v w h) (fun r => twQ N v w r) := by
  unfold f_X6_isTwo
  refine al_oP (fun r1 h1 => ?_)
  have q1 := house6 hN r1 h1
  unfold hsQ at q1
  refine al_ite (fun c => al_some (by unfold twQ; rw [ti0]; omega)) (fun c => al_oP (fun r2 h2 => ?_))
  have q2 := house6 hN r2 h2
  unfold hsQ at q2
  refine al_ite (fun d => al_some (by unfold twQ; rw [ti0]; omega)) (fun d => al_ite (fun e => al_some (by unfold twQ; rw [ti0]; omega)) (fun e => al_some (by unfold twQ; rw [ti1]; omega)))
theorem either6 {v : Int32} : Al (f_X6_isEither v) (fun r => (r.toInt = 0 ∧ ¬ (v.toInt = 0 ∨ v.toInt = 1)) ∨ (r.toInt = 1 ∧ (v.toInt = 0 ∨ v.toInt = 1))) := by
  unfold f_X6_isEither
  exact al_ite (fun c => al_some (by rw [ti1]; omega)) (fun c => al_ite (fun d => al_some (by rw [ti1]; omega)) (fun d => al_some (by rw [ti0]; omega)))
theorem years6 {v : Int32} : Al (f_X6_isYears v) (fun r => (r.toInt = 0 ∧ ¬ (0 ≤ v.toInt ∧ v.toInt ≤ 20)) ∨ (r.toInt = 1 ∧ 0 ≤ v.toInt ∧ v.toInt ≤ 20)) := by
  unfold f_X6_isYears
  exact al_ite (fun c => al_some (by rw [ti0]; omega)) (fun c => al_ite (fun d => al_some (by rw [ti0]; omega)) (fun d => al_some (by rw [ti1]; omega)))
theorem friends6 {v : Int32} : Al (f_X6_isFriends v) (fun r => (r.toInt = 0 ∧ ¬ (0 ≤ v.toInt ∧ v.toInt ≤ 28)) ∨ (r.toInt = 1 ∧ 0 ≤ v.toInt ∧ v.toInt ≤ 28)) := by
  unfold f_X6_isFriends
  exact al_ite (fun c => al_some (by rw [ti0]; omega)) (fun c => al_ite (fun d => al_some (by rw [ti0]; omega)) (fun d => al_some (by rw [ti1]; omega)))
theorem L0 : (0 : Int64).toInt = 0 := by decide
theorem L1 : (1 : Int64).toInt = 1 := by decide
theorem L2 : (2 : Int64).toInt = 2 := by decide
theorem L3 : (3 : Int64).toInt = 3 := by decide
theorem L4 : (4 : Int64).toInt = 4 := by decide
theorem L5 : (5 : Int64).toInt = 5 := by decide
theorem L6 : (6 : Int64).toInt = 6 := by decide
theorem L7 : (7 : Int64).toInt = 7 := by decide
theorem L8 : (8 : Int64).toInt = 8 := by decide
theorem L9 : (9 : Int64).toInt = 9 := by decide
theorem L10 : (10 : Int64).toInt = 10 := by decide
theorem L17 : (17 : Int64).toInt = 17 := by decide
theorem L20 : (20 : Int64).toInt = 20 := by decide
theorem L28 : (28 : Int64).toInt = 28 := by decide
theorem L99 : (99 : Int64).toInt = 99 := by decide
theorem L255 : (255 : Int64).toInt = 255 := by decide
theorem L999 : (999 : Int64).toInt = 999 := by decide
theorem Lm1 : (-1 : Int64).toInt = -1 := by decide
theorem al_house7 {α : Type} {N : Nat} {h : dH} {v : Int32} {f : Int32 → Option α} {P : α → Prop} (hN : (h 0 13).toInt = N) (hN8 : N ≤ 8) (k : ∀ r : Int32, ((r.toInt = 0 ∧ (v.toInt < 0 ∨ N ≤ v.toInt)) ∨ (r.toInt = 1 ∧ 0 ≤ v.toInt ∧ v.toInt < N)) → Al (f r) P) : Al (oP (f_X7_isHouse v h) f) P := al_oP (fun r hr => k r (house7 hN hN8 r hr))
theorem al_house6 {α : Type} {N : Nat} {h : dH} {v : Int32} {f : Int32 → Option α} {P : α → Prop} (hN : (h 43 2).toInt = N) (k : ∀ r : Int32, ((r.toInt = 0 ∧ (v.toInt < 0 ∨ N ≤ v.toInt)) ∨ (r.toInt = 1 ∧ 0 ≤ v.toInt ∧ v.toInt < N)) → Al (f r) P) : Al (oP (f_X6_isHouse v h) f) P := al_oP (fun r hr => k r (house6 hN r hr))
/-- what is told of a house -/
def toldS (Y : zY) (y : Int32) (st : zT2) (of what : Int) : Int32 :=
  if what = 0 then y else if what = 1 then yL Y else if ¬ (0 ≤ of ∧ of < yN Y) then -2 else if what = 2 then yB Y of.toNat else if what = 3 then yT Y of.toNat else if what = 4 then yK Y of.toNat else if what = 5 then cnt32 (knS Y st of.toNat) (yN Y) else if what = 6 then seatsS Y of.toNat else if what = 7 then sdS Y y of.toNat else if 0 ≤ what - 10 ∧ what - 10 < yN Y then st of.toNat (what - 10).toNat else -2
section TD
variable {Y : zY} {y : Int32} {st : zT2} {h : dH}
theorem td0 {of what : Int} (e : what = 0) : toldS Y y st of what = y := if_pos e
theorem td1 {of what : Int} (e : what = 1) : toldS Y y st of what = yL Y := (if_neg (by omega)).trans (if_pos e)
theorem tdB {of what : Int} (e : ¬ what = 0) (f : ¬ what = 1) (g : ¬ (0 ≤ of ∧ of < yN Y)) : toldS Y y st of what = -2 := (if_neg e).trans ((if_neg f).trans (if_pos g))
theorem tdH {of what : Int} (e : ¬ what = 0) (f : ¬ what = 1) (g : 0 ≤ of ∧ of < yN Y) : toldS Y y st of what = if what = 2 then yB Y of.toNat else if what = 3 then yT Y of.toNat else if what = 4 then yK Y of.toNat else if what = 5 then cnt32 (knS Y st of.toNat) (yN Y) else if what = 6 then seatsS Y of.toNat else if what = 7 then sdS Y y of.toNat else if 0 ≤ what - 10 ∧ what - 10 < yN Y then st of.toNat (what - 10).toNat else -2 := (if_neg e).trans ((if_neg f).trans (if_neg (fun q => q g)))
theorem td2 {of what : Int} (e : what = 2) (g : 0 ≤ of ∧ of < yN Y) : toldS Y y st of what = yB Y of.toNat := (tdH (by omega) (by omega) g).trans (if_pos e)
theorem td3 {of what : Int} (e : what = 3) (g : 0 ≤ of ∧ of < yN Y) : toldS Y y st of what = yT Y of.toNat := (tdH (by omega) (by omega) g).trans ((if_neg (by omega)).trans (if_pos e))
theorem td4 {of what : Int} (e : what = 4) (g : 0 ≤ of ∧ of < yN Y) : toldS Y y st of what = yK Y of.toNat := (tdH (by omega) (by omega) g).trans ((if_neg (by omega)).trans ((if_neg (by omega)).trans (if_pos e)))
theorem td5 {of what : Int} (e : what = 5) (g : 0 ≤ of ∧ of < yN Y) : toldS Y y st of what = cnt32 (knS Y st of.toNat) (yN Y) := (tdH (by omega) (by omega) g).trans ((if_neg (by omega)).trans ((if_neg (by omega)).trans ((if_neg (by omega)).trans (if_pos e))))
theorem td6 {of what : Int} (e : what = 6) (g : 0 ≤ of ∧ of < yN Y) : toldS Y y st of what = seatsS Y of.toNat := (tdH (by omega) (by omega) g).trans ((if_neg (by omega)).trans ((if_neg (by omega)).trans ((if_neg (by omega)).trans ((if_neg (by omega)).trans (if_pos e)))))
theorem td7 {of what : Int} (e : what = 7) (g : 0 ≤ of ∧ of < yN Y) : toldS Y y st of what = sdS Y y of.toNat := (tdH (by omega) (by omega) g).trans ((if_neg (by omega)).trans ((if_neg (by omega)).trans ((if_neg (by omega)).trans ((if_neg (by omega)).trans ((if_neg (by omega)).trans (if_pos e))))))
theorem tdO {of what : Int} (e : what < 0 ∨ 7 < what) (g : 0 ≤ of ∧ of < yN Y) : toldS Y y st of what = if 0 ≤ what - 10 ∧ what - 10 < yN Y then st of.toNat (what - 10).toNat else -2 := (tdH (by omega) (by omega) g).trans ((if_neg (by omega)).trans ((if_neg (by omega)).trans ((if_neg (by omega)).trans ((if_neg (by omega)).trans ((if_neg (by omega)).trans (if_neg (by omega)))))))
theorem tdS {of what : Int} (e : 0 ≤ what - 10 ∧ what - 10 < yN Y) (g : 0 ≤ of ∧ of < yN Y) : toldS Y y st of what = st of.toNat (what - 10).toNat := (tdO (by omega) g).trans (if_pos e)
theorem tdN {of what : Int} (e : what < 0 ∨ 7 < what) (f : ¬ (0 ≤ what - 10 ∧ what - 10 < yN Y)) : toldS Y y st of what = -2 := by
  by_cases g : 0 ≤ of ∧ of < yN Y
  · exact (tdO e g).trans (if_neg f)
  · exact tdB (by omega) (by omega) g
theorem sub10 {v : Int32} (h : 10 ≤ v.toInt) : (v - 10).toInt = v.toInt - 10 := by
  have := lt32 v
  exact i_sub rfl (by decide) (by omega) (by omega)
theorem mtold_ok (H : SM Y y st h) (n : mNo h) {v1 v2 : Int32} : Al (f_X7_told v1 v2 h) (fun o => o.1 = toldS Y y st v1.toInt v2.toInt ∧ mFr o.2 h) := by
  obtain ⟨H0, H1, H2, H3, H4, H5, -⟩ := id H
  unfold f_X7_told
  have l0 := L0
  have l7 := L7
  have l10 := L10
  have l17 := L17
  have hh : ∀ i : Nat, i < yN Y → h 4 i = yK Y i ∧ h 5 i = yB Y i ∧ h 6 i = yT Y i := H4
  have small : ∀ (_ : ¬ (7 : Int) < v2.toInt ∧ ¬ v2.toInt < 0) (_ : ¬ 1 < v2.toInt ∨ (0 ≤ v1.toInt ∧ v1.toInt < yN Y)), Al (if v2.toInt < 5 then (if v2.toInt = 0 then (some ((h 0 7), h)) else (if v2.toInt = 1 then (some ((h 0 8), h)) else (if v2.toInt = 2 then (if 0 ≤ v1.toInt ∧ v1.toInt < 8 then (some ((h 5 (v1.toInt.toNat)), h)) else none) else (if v2.toInt = 3 then (if 0 ≤ v1.toInt ∧ v1.toInt < 8 then (some ((h 6 (v1.toInt.toNat)), h)) else none) else (if 0 ≤ v1.toInt ∧ v1.toInt < 8 then (some ((h 4 (v1.toInt.toNat)), h)) else none))))) else (if 5 < v2.toInt then (if v2.toInt = 6 then (oP (f_X7_seatsOf v1 h) (fun r29 => some (r29, h))) else (oI (f_X7_soundsOf v1 h) (fun r30 g31 => some (r30, g31)))) else (l_X7_told_171 v1 h (fun v4_37 => some (v4_37, h)) fuel0 0 0 ))) (fun o => o.1 = toldS Y y st v1.toInt v2.toInt ∧ mFr o.2 h) := by
    intro a b
    refine al_ite (fun c5 => al_ite (fun c => al_some ⟨by rw [td0 c]; exact H0, mFr.refl h⟩) (fun c0 => al_ite (fun c => al_some ⟨by rw [td1 c]; exact H1, mFr.refl h⟩) (fun c1 => al_ite (fun c => al_ite (fun _ => al_some ⟨by rw [td2 c (by omega)]; exact (hh _ (by omega)).2.1, mFr.refl h⟩) (fun _ => al_none)) (fun c2 => al_ite (fun c => al_ite (fun _ => al_some ⟨by rw [td3 c (by omega)]; exact (hh _ (by omega)).2.2, mFr.refl h⟩) (fun _ => al_none)) (fun c3 => al_ite (fun _ => al_some ⟨by rw [td4 (by omega) (by omega)]; exact (hh _ (by omega)).1, mFr.refl h⟩) (fun _ => al_none)))))) (fun c5 => al_ite (fun c6 => al_ite (fun c => al_oP (fun r hr => al_some ⟨?_, mFr.refl h⟩)) (fun c => al_oI (fun r g hr => al_some ?_))) (fun c6 => ?_))
    · rw [td6 c (by omega)]
      exact seatsOf_ok H (i := v1.toInt.toNat) (by omega) (by omega) r hr
    · rw [td7 (by omega) (by omega)]
      exact soundsOf_ok H (i := v1.toInt.toNat) (by omega) (by omega) (r, g) hr
    · refine macq (K := knS Y st) (N := yN Y) (H.kn n) H2 H3 (i := v1.toInt.toNat) (by omega) (by omega) (al_some ⟨?_, mFr.refl h⟩) _ 0 0 (by decide) (by rw [ti0]; omega) rfl
      rw [td5 (by omega) (by omega)]
  have bad : ¬ v2.toInt = 0 → ¬ v2.toInt = 1 → ¬ (0 ≤ v1.toInt ∧ v1.toInt < yN Y) → Al (some ((-2 : Int32), h)) (fun o => o.1 = toldS Y y st v1.toInt v2.toInt ∧ mFr o.2 h) := fun a b c => al_some ⟨by rw [tdB a b c], mFr.refl h⟩
  have bad2 : (v2.toInt < 0 ∨ 7 < v2.toInt) → ¬ (0 ≤ v2.toInt - 10 ∧ v2.toInt - 10 < yN Y) → Al (some ((-2 : Int32), h)) (fun o => o.1 = toldS Y y st v1.toInt v2.toInt ∧ mFr o.2 h) := fun a b => al_some ⟨by rw [tdN a b], mFr.refl h⟩
  have oth : 10 ≤ v2.toInt → v2.toInt - 10 < yN Y → 0 ≤ v1.toInt ∧ v1.toInt < yN Y → Al (oP (f_X7_strengthOf v1 (v2 - 10) h) (fun r124 => some (r124, h))) (fun o => o.1 = toldS Y y st v1.toInt v2.toInt ∧ mFr o.2 h) := by
    intro a b c
    have s10 := sub10 a
    refine al_oP (fun r hr => al_some ⟨?_, mFr.refl h⟩)
    have e := strengthOf_ok (i := v1.toInt.toNat) (j := (v2.toInt - 10).toNat) (by omega) (by omega) (by omega) (by omega) r hr
    rw [tdS (by omega) c, ← H5 _ _ (by omega) (by omega)]
    exact e
  refine al_in (fun r1 q1 => al_ite (fun z1 => al_in (fun r4 q4 => al_ite (fun z4 => bad2 (by omega) (by omega)) (fun z4 => al_ite (fun c1 => al_house7 H2 H3 (fun r9 q9 => al_ite (fun z9 => bad (by omega) (by omega) (by omega)) (fun z9 => small (by omega) (by omega)))) (fun c1 => small (by omega) (by omega))))) (fun z1 => al_house7 H2 H3 (fun r61 q61 => ?_)))
  have s10 := sub10 (v := v2) (by omega)
  refine al_ite (fun z61 => al_in (fun r64 q64 => al_ite (fun z64 => bad2 (by omega) (by omega)) (fun z64 => absurd z64 (by omega)))) (fun z61 => al_in (fun r116 q116 => al_ite (fun z => al_ite (fun _ => al_house7 H2 H3 (fun r121 q121 => al_ite (fun z2 => bad (by omega) (by omega) (by omega)) (fun z2 => oth (by omega) (by omega) (by omega)))) (fun z2 => absurd z2 (by omega))) (fun z => absurd z (by omega))))
end TD
def Op2 (t u : Option (Int32 × dH)) : Prop := Al t (fun o => Al u (fun o2 => o.1 = o2.1 ∧ RR o.2 o2.2))
theorem Op2.of {t u : Option (Int32 × dH)} {hC hM : dH} (q : RR hC hM) {x : Int32} (h1 : Al t (fun o => o.1 = x ∧ cV o.2 hC)) (h2 : Al u (fun o => o.1 = x ∧ bFr o.2 hM)) : Op2 t u := fun o ho o2 ho2 => by
  obtain ⟨a1, a2⟩ := h1 o ho
  obtain ⟨b1, b2⟩ := h2 o2 ho2
  exact ⟨a1.trans b1.symm, q.keep a2 b2⟩
theorem op_told {hC hM : dH} (q : RR hC hM) (v1 v2 : Int32) : Op2 (f_X6_told v1 v2 hC) (f_X7_told v1 v2 hM) := by
  obtain ⟨C, M, W, R, T⟩ := q.st
  obtain ⟨C0, C1, C2, C3, C4, C5, -⟩ := id C
  refine Op2.of q (x := toldS (yOf 43 hC) (hC 43 0) (stOf 43 hC) v1.toInt v2.toInt) ?_ (al_mono (mtold_ok M q.2.2.2.2.2) (fun o h => ⟨h.1, h.2.b⟩))
  unfold f_X6_told
  have setq : ∀ {α : Type} (f : Int32 → Option α) (P : α → Prop), (v2.toInt = 0 → Al (f (hC 43 0)) P) → (v2.toInt = 1 → Al (f (hC 43 1)) P) → (v2.toInt = 2 → Al (f (hC 45 v1.toInt.toNat)) P) → (¬ v2.toInt = 0 → ¬ v2.toInt = 1 → ¬ v2.toInt = 2 → Al (f (hC 46 v1.toInt.toNat)) P) → Al (oP (f_X6_setting v2 v1 hC) f) P := by
    intro α f P a0 a1 a2 a3
    refine al_oP (fun r => ?_)
    unfold f_X6_setting
    by_cases c0 : v2.toInt = 0
    · rw [if_pos c0]
      intro hr; cases hr; exact a0 c0
    · rw [if_neg c0]
      by_cases c1 : v2.toInt = 1
      · rw [if_pos c1]
        intro hr; cases hr; exact a1 c1
      · rw [if_neg c1]
        by_cases c2 : v2.toInt = 2
        · rw [if_pos c2]
          by_cases d : 0 ≤ v1.toInt ∧ v1.toInt < 8
          · rw [if_pos d]; intro hr; cases hr; exact a2 c2
          · rw [if_neg d]; intro hr; cases hr
        · rw [if_neg c2]
          by_cases d : 0 ≤ v1.toInt ∧ v1.toInt < 8
          · rw [if_pos d]; intro hr; cases hr; exact a3 c0 c1 c2
          · rw [if_neg d]; intro hr; cases hr
  have rf := cV.refl hC
  refine al_ite (fun c0 => setq _ _ (fun _ => al_some ⟨(td0 c0).symm, rf⟩) (fun z => by omega) (fun z => by omega) (fun z => absurd c0 z)) (fun c0 => al_ite (fun c1 => setq _ _ (fun z => by omega) (fun _ => al_some ⟨(td1 (Y := yOf 43 hC) (y := hC 43 0) (st := stOf 43 hC) c1).symm, rf⟩) (fun z => by omega) (fun _ z => absurd c1 z)) (fun c1 => al_house6 C2 (fun r7 q7 => al_ite (fun z7 => al_some ⟨(tdB c0 c1 (by omega)).symm, rf⟩) (fun z7 => ?_))))
  have g : 0 ≤ v1.toInt ∧ v1.toInt < yN (yOf 43 hC) := by omega
  refine al_ite (fun c2 => setq _ _ (fun z => absurd z c0) (fun z => absurd z c1) (fun _ => al_some ⟨(td2 c2 g).symm, rf⟩) (fun _ _ z => absurd c2 z)) (fun c2 => al_ite (fun c3 => setq _ _ (fun z => absurd z c0) (fun z => absurd z c1) (fun z => absurd z c2) (fun _ _ _ => al_some ⟨(td3 c3 g).symm, rf⟩)) (fun c3 => al_ite (fun c4 => al_ite (fun _ => al_some ⟨(td4 c4 g).symm, rf⟩) (fun _ => al_none)) (fun c4 => al_ite (fun c5 => al_oP (fun r hr => al_some ⟨?_, rf⟩)) (fun c5 => al_ite (fun c6 => al_ite (fun _ => al_oP (fun r hr => al_some ⟨?_, rf⟩)) (fun _ => al_none)) (fun c6 => al_ite (fun c7 => al_oI (fun r g hr => al_some ?_)) (fun c7 => ?_))))))
  · rw [td5 c5 g]
    exact acq_ok C.kn C2 C3 (i := v1.toInt.toNat) (by omega) (by omega) r hr
  · rw [td6 c6 g]
    have := seatsAt_ok C r hr
    exact this
  · obtain ⟨x1, x2⟩ := sounds_ok (Or.inl rfl) C (i := v1.toInt.toNat) (by omega) (by omega) (W.2 _ (by omega)) (r, g) hr
    exact ⟨x1.trans (td7 c7 (by omega)).symm, x2.v (Or.inl rfl)⟩
  · have small : 0 ≤ v2.toInt → v2.toInt ≤ 7 → False := fun a b => by omega
    refine al_house6 C2 (fun r30 q30 => ?_)
    have lt := lt32 v2
    by_cases big : v2.toInt < -2147483638
    · -- the sum wraps: no house has such a number
      have e : (v2 - 10).toInt = v2.toInt - 10 + 4294967296 := by
        rw [Int32.toInt_sub, show (10 : Int32).toInt = 10 by decide, show (2 : Nat) ^ 32 = 4294967296 from rfl]
        unfold Int.bmod
        simp only
        split <;> omega
      refine al_ite (fun z => al_some ⟨(tdN (by omega) (by omega)).symm, rf⟩) (fun z => absurd z (by omega))
    · have e : (v2 - 10).toInt = v2.toInt - 10 := i_sub rfl (by decide) (by omega) (by omega)
      refine al_ite (fun z => al_some ⟨(tdN (by omega) (by omega)).symm, rf⟩) (fun z => al_ite (fun _ => al_ite (fun _ => al_some ⟨?_, rf⟩) (fun _ => al_none)) (fun _ => al_none))
      rw [tdS (by omega) g, e]
      rfl
end
