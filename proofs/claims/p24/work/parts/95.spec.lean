/-! streets: what both tell of houses, as functions -/
noncomputable section
/-- how many houses, LIMIT, kinds, numbers, tables, what the rule tells -/
abbrev zY : Type := Nat × Int32 × (Nat → Int32) × (Nat → Int32) × (Nat → Int32) × (Nat → (Nat → Int32) → Int32)
abbrev yN (Y : zY) : Nat := Y.1
abbrev yL (Y : zY) : Int32 := Y.2.1
abbrev yK (Y : zY) : Nat → Int32 := Y.2.2.1
abbrev yB (Y : zY) : Nat → Int32 := Y.2.2.2.1
abbrev yT (Y : zY) : Nat → Int32 := Y.2.2.2.2.1
abbrev yE (Y : zY) : Nat → (Nat → Int32) → Int32 := Y.2.2.2.2.2
abbrev zT2 : Type := Nat → Nat → Int32
def cnt32 (f : Nat → Bool) : Nat → Int32
  | 0 => 0
  | m + 1 => if f m = true then cnt32 f m + 1 else cnt32 f m
theorem cnt32_congr {f g : Nat → Bool} : ∀ m, (∀ j, j < m → f j = g j) → cnt32 f m = cnt32 g m
  | 0, _ => rfl
  | m + 1, h => by rw [cnt32, cnt32, h m (by omega), cnt32_congr m (fun j hj => h j (by omega))]
theorem cnt32_rng (f : Nat → Bool) : ∀ m, m ≤ 1000 → 0 ≤ (cnt32 f m).toInt ∧ (cnt32 f m).toInt ≤ m
  | 0, _ => by rw [cnt32, ti0]; omega
  | m + 1, hm => by
    have ih := cnt32_rng f m (by omega)
    rw [cnt32]
    by_cases h : f m = true
    · rw [if_pos h, i_add rfl ti1 (by omega) (by omega)]; omega
    · rw [if_neg h]; omega
theorem cnt32_zero {f : Nat → Bool} : ∀ m, (∀ j, j < m → f j = false) → cnt32 f m = 0
  | 0, _ => rfl
  | m + 1, h => by
    rw [cnt32, h m (by omega), cnt32_zero m (fun j hj => h j (by omega))]
    rfl
def seatsS (Y : zY) (i : Nat) : Int32 := if (yT Y i).toInt = -1 then 0 else cnt32 (fun k => decide ((yT Y k).toInt = (yT Y i).toInt)) (yN Y)
def apS (i j : Nat) : Int32 := Int32.ofNat (if j < i then i - j else j - i)
def nmS (Y : zY) (y : Int32) (st : zT2) (i j : Nat) : Nat → Int32
  | 0 => st i j
  | 1 => yB Y i
  | 2 => yB Y j
  | 3 => seatsS Y i
  | 4 => y
  | 5 => apS i j
  | _ => 0
def nmZ (Y : zY) (y : Int32) (i : Nat) : Nat → Int32
  | 1 => yB Y i
  | 3 => seatsS Y i
  | 4 => y
  | _ => 0
def mtV (k n v ap : Int32) : Int32 := if k.toInt = 1 then 2 * v else if k.toInt = 2 then v / 2 else if k.toInt = 3 then 2 * v + n else if k.toInt = 4 then (if 2 < ap.toInt then 0 else v / 2) else if k.toInt = 5 then 3 else v
def fdV (k y v : Int32) : Int32 := if k.toInt = 1 then v + 1 else if k.toInt = 2 then v / 2 else if k.toInt = 3 then 2 * (v + 1) else if k.toInt = 4 then (if (drem y 2).toInt = 0 then 0 else v / 2) else v
def sdV (k n v : Int32) : Int32 := if k.toInt = 1 then v + 5 else if k.toInt = 2 then 0 else if k.toInt = 3 then 2 * (v + 5) else if k.toInt = 4 then 0 else if k.toInt = 5 then n else v
def mtS (Y : zY) (y : Int32) (st : zT2) (i j : Nat) : Int32 := mtV (yK Y i) (yB Y i) (yE Y 0 (nmS Y y st i j)) (apS i j)
def fdS (Y : zY) (y : Int32) (st : zT2) (i j : Nat) : Int32 := fdV (yK Y i) y (yE Y 1 (nmS Y y st i j))
def sdS (Y : zY) (y : Int32) (i : Nat) : Int32 := sdV (yK Y i) (yB Y i) (yE Y 2 (nmZ Y y i))
/-- the class's street at a -/
def SC (a : Nat) (Y : zY) (y : Int32) (st : zT2) (h : dH) : Prop :=
  h a 0 = y ∧ h a 1 = yL Y ∧ (h a 2).toInt = yN Y ∧ yN Y ≤ 8 ∧ (∀ i, i < yN Y → h (a + 1) i = yK Y i ∧ h (a + 2) i = yB Y i ∧ h (a + 3) i = yT Y i) ∧ (∀ i j, i < yN Y → j < yN Y → h (a + 5 + i) j = st i j) ∧
  tOk h (dtx (h a 3)) ∧ (∀ nm pt, pt < 3 → ∃ v, tEv h (dtx (h a 3)) nm pt = some [v]) ∧ (∀ pt nm, pt < 3 → evF h (dtx (h a 3)) pt nm = yE Y pt nm)
/-- all but one street's own rows and the piles -/
def cFr (a : Nat) (g h : dH) : Prop := ∀ b k, ¬ (a ≤ b ∧ b ≤ a + 13) → ¬ (13 ≤ b ∧ b ≤ 33 ∧ b % 4 = 1) → g b k = h b k
/-- .. and of the street's its names alone -/
def nFr (a : Nat) (g h : dH) : Prop := ∀ b k, ¬ b = a + 13 → ¬ (13 ≤ b ∧ b ≤ 33 ∧ b % 4 = 1) → g b k = h b k
theorem cFr.refl (a : Nat) (h : dH) : cFr a h h := fun _ _ _ _ => rfl
theorem cFr.trans {a : Nat} {f g h : dH} (q : cFr a f g) (r : cFr a g h) : cFr a f h := fun b k x y => (q b k x y).trans (r b k x y)
theorem nFr.refl (a : Nat) (h : dH) : nFr a h h := fun _ _ _ _ => rfl
theorem nFr.trans {a : Nat} {f g h : dH} (q : nFr a f g) (r : nFr a g h) : nFr a f h := fun b k x y => (q b k x y).trans (r b k x y)
theorem nFr.c {a : Nat} {g h : dH} (q : nFr a g h) : cFr a g h := fun b k x y => q b k (by omega) y
theorem zS_or {a : Nat} (h : zS a) : a = 43 ∨ a = 57 ∨ a = 71 := h
theorem tEv_congr {f g : dH} {ta : Nat} (h1 : ∀ k, f (ta + 1) k = g (ta + 1) k) (h2 : ∀ k, f (ta + 2) k = g (ta + 2) k) : (tOk f ta ↔ tOk g ta) ∧ (∀ nm pt, tEv f ta nm pt = tEv g ta nm pt) ∧ ∀ pt nm, evF f ta pt nm = evF g ta pt nm := by
  have a : tA f ta = tA g ta := by funext pt; unfold tA; rw [h2]
  have b : tB f ta = tB g ta := by funext pt; unfold tB; rw [h2]
  have c : f (ta + 1) = g (ta + 1) := funext h1
  have e : ∀ nm pt, tEv f ta nm pt = tEv g ta nm pt := fun nm pt => by unfold tEv; rw [a, b, c]
  refine ⟨by unfold tOk; rw [a, b]; constructor <;> intro h pt hp <;> have := h pt hp <;> rw [h2] at * <;> exact this, e, fun pt nm => by unfold evF; rw [e]⟩
theorem dtx_or (x : Int32) : dtx x = 10 ∨ dtx x = 14 ∨ dtx x = 18 ∨ dtx x = 22 ∨ dtx x = 26 ∨ dtx x = 30 := zT_dtx x
/-- the texts' rows stand under both frames -/
theorem SC.n {a : Nat} (ha : zS a) {Y : zY} {y : Int32} {st : zT2} {g h : dH} (q : nFr a g h) (H : SC a Y y st h) : SC a Y y st g := by
  have z := zS_or ha
  obtain ⟨h0, h1, h2, h3, h4, h5, h6, h7, h8⟩ := H
  have e : ∀ b k, (a ≤ b ∧ b ≤ a + 12) → g b k = h b k := fun b k hb => q b k (by omega) (by omega)
  have t := dtx_or (h a 3)
  have e3 : g a 3 = h a 3 := e a 3 (by omega)
  obtain ⟨c1, c2, c3⟩ := tEv_congr (f := g) (g := h) (ta := dtx (h a 3)) (fun k => q _ k (by omega) (by omega)) (fun k => q _ k (by omega) (by omega))
  refine ⟨by rw [e a 0 (by omega)]; exact h0, by rw [e a 1 (by omega)]; exact h1, by rw [e a 2 (by omega)]; exact h2, h3, fun i hi => ?_, fun i j hi hj => ?_, ?_, ?_, ?_⟩
  · rw [e (a + 1) i (by omega), e (a + 2) i (by omega), e (a + 3) i (by omega)]; exact h4 i hi
  · rw [e (a + 5 + i) j (by omega)]; exact h5 i j hi hj
  · rw [e3]; exact c1.mpr h6
  · rw [e3]; exact fun nm pt hp => by rw [c2]; exact h7 nm pt hp
  · rw [e3]; exact fun pt nm hp => by rw [c3]; exact h8 pt nm hp
/-! the class: seats, names, what a house tells -/
theorem seatsAt_11 {a : Nat} {h : dH} {Y : zY} {y : Int32} {st : zT2} (H : SC a Y y st h) {v1 : Int32} : ∀ (n : Nat) (v2 v3 : Int32), 0 ≤ v3.toInt → v3.toInt ≤ yN Y → v2 = cnt32 (fun k => decide ((yT Y k).toInt = v1.toInt)) v3.toInt.toNat → Al (l_X3_seatsAt_11 a v1 h (fun v => some v) n v2 v3) (fun r => r = cnt32 (fun k => decide ((yT Y k).toInt = v1.toInt)) (yN Y))
  | 0, _, _, _, _, _ => al_none
  | n + 1, v2, v3, p0, p1, e => by
    obtain ⟨h0, h1, h2, h3, h4, h5, -⟩ := id H
    rw [l_X3_seatsAt_11]
    have t3 : v3.toInt < 8 → (v3 + 1).toInt = v3.toInt + 1 := fun z => i_add rfl (by decide) (by omega) (by omega)
    refine al_ite (fun c => al_ite (fun _ => ?_) (fun _ => al_none)) (fun c => al_some ?_)
    · have en : (v3 + 1).toInt.toNat = v3.toInt.toNat + 1 := by rw [t3 (by omega)]; omega
      rw [(h4 v3.toInt.toNat (by omega)).2.2]
      refine al_ite (fun z => seatsAt_11 H n _ _ (by rw [t3 (by omega)]; omega) (by rw [t3 (by omega)]; omega) ?_) (fun z => seatsAt_11 H n _ _ (by rw [t3 (by omega)]; omega) (by rw [t3 (by omega)]; omega) ?_)
      · rw [en, cnt32, if_pos (decide_eq_true z), e]
      · rw [en, cnt32, if_neg (by rw [decide_eq_true_eq]; exact z), e]
    · rw [e, show v3.toInt.toNat = yN Y by omega]
theorem seatsAt_ok {a : Nat} {h : dH} {Y : zY} {y : Int32} {st : zT2} (H : SC a Y y st h) {v1 : Int32} : Al (f_X3_seatsAt a v1 h) (fun r => r = if v1.toInt = -1 then 0 else cnt32 (fun k => decide ((yT Y k).toInt = v1.toInt)) (yN Y)) := by
  unfold f_X3_seatsAt
  refine al_ite (fun c => al_some (by rw [if_pos c])) (fun c => ?_)
  rw [if_neg c]
  exact seatsAt_11 H _ 0 0 (by decide) (by rw [ti0]; omega) rfl
theorem abs_ok {v1 v2 : Int32} {i j : Nat} (h1 : v1.toInt = i) (h2 : v2.toInt = j) (hi : i < 1000) (hj : j < 1000) : dabs (v1 - v2) = apS i j := by
  have hs : (v1 - v2).toInt = (i : Int) - j := i_sub h1 h2 (by omega) (by omega)
  apply Int32.toInt_inj.mp
  unfold dabs apS
  rw [Int32.toInt_ofNat_of_lt (by split <;> omega)]
  have lt : (v1 - v2) < 0 ↔ (v1 - v2).toInt < 0 := by rw [Int32.lt_iff_toInt_lt, ti0]
  by_cases c : (v1 - v2) < 0
  · rw [if_pos c]
    have c' := lt.mp c
    have : (-(v1 - v2)).toInt = -((i : Int) - j) := by
      rw [Int32.toInt_neg, hs, bm32 (by omega) (by omega)]
    rw [this, if_neg (by omega)]
    omega
  · rw [if_neg c, hs]
    have c' : ¬ (v1 - v2).toInt < 0 := fun z => c (lt.mpr z)
    by_cases z : j < i
    · rw [if_pos z]; omega
    · rw [if_neg z]; omega
theorem look_ok {a : Nat} (ha : zS a) {h : dH} {Y : zY} {y : Int32} {st : zT2} (H : SC a Y y st h) {v1 v2 : Int32} {i j : Nat} (h1 : v1.toInt = i) (h2 : v2.toInt = j) (hi : i < yN Y) (hj : j < yN Y) : Al (f_X3_look a v1 v2 h) (fun g => (∀ b k, ¬ b = a + 13 → g b k = h b k) ∧ ∀ k, k < 6 → g (a + 13) k = nmS Y y st i j k) := by
  obtain ⟨H0, H1, H2, H3, H4, H5, -⟩ := id H
  have z := zS_or ha
  unfold f_X3_look
  have e1 : v1.toInt.toNat = i := by omega
  have e2 : v2.toInt.toNat = j := by omega
  rw [e1, e2]
  refine al_ite (fun _ => al_ite (fun _ => al_oH' (fun g3 q3 => al_ite (fun _ => al_oH' (fun g5 q5 => al_ite (fun _ => al_oH' (fun g7 q7 => al_ite (fun _ => al_oP (fun r9 hr => al_oH' (fun g10 q10 => al_oH' (fun g11 q11 => al_oH' (fun g12 q12 => al_some ?_))))) (fun _ => al_none))) (fun _ => al_none))) (fun _ => al_none))) (fun _ => al_none)) (fun _ => al_none)
  have k7 : ∀ b k, ¬ b = a + 13 → g7 b k = h b k := fun b k q => by rw [q7, dU_ne (by omega), q5, dU_ne (by omega), q3, dU_ne (by omega)]
  have S7 : SC a Y y st g7 := H.n ha (fun b k q _ => k7 b k q)
  have r := seatsAt_ok S7 r9 hr
  rw [k7 _ _ (by omega), (H4 i hi).2.2] at r
  have k12 : ∀ b k, ¬ b = a + 13 → g12 b k = h b k := fun b k q => by rw [q12, dU_ne (by omega), q11, dU_ne (by omega), q10, dU_ne (by omega), k7 b k q]
  refine ⟨k12, fun k hk => ?_⟩
  have x5 : k = 0 ∨ k = 1 ∨ k = 2 ∨ k = 3 ∨ k = 4 ∨ k = 5 := by omega
  rcases x5 with rfl | rfl | rfl | rfl | rfl | rfl
  · rw [q12, dU_ne (by omega), q11, dU_ne (by omega), q10, dU_ne (by omega), q7, dU_ne (by omega), q5, dU_ne (by omega), q3, dU_eq]
    exact H5 i j hi hj
  · rw [q12, dU_ne (by omega), q11, dU_ne (by omega), q10, dU_ne (by omega), q7, dU_ne (by omega), q5, dU_eq, q3, dU_ne (by omega)]
    exact (H4 i hi).2.1
  · rw [q12, dU_ne (by omega), q11, dU_ne (by omega), q10, dU_ne (by omega), q7, dU_eq, q5, dU_ne (by omega), q3, dU_ne (by omega)]
    exact (H4 j hj).2.1
  · rw [q12, dU_ne (by omega), q11, dU_ne (by omega), q10, dU_eq]
    exact r
  · rw [q12, dU_ne (by omega), q11, dU_eq, q10, dU_ne (by omega), k7 _ _ (by omega)]
    exact H0
  · rw [q12, dU_eq]
    exact abs_ok h1 h2 (by omega) (by omega)
/-- a part's value for the class's names -/
theorem cval {a : Nat} (ha : zS a) {h g : dH} {Y : zY} {y : Int32} {st : zT2} (H : SC a Y y st h) (hg : ∀ b k, ¬ b = a + 13 → g b k = h b k) {nm : Nat → Int32} (hnm : ∀ k, k < 6 → g (a + 13) k = nm k) {pt : Nat} (hpt : pt < 3) {v : Int32} (hv : v.toInt = pt) : Al (f_X5_value (dtx (g a 3)) v (a + 13) g) (fun o => o.1 = yE Y pt nm ∧ nFr a o.2 h ∧ pS (dtx (h a 3) + 3) o.2 g) := by
  have z := zS_or ha
  have G : SC a Y y st g := H.n ha (fun b k q _ => hg b k q)
  obtain ⟨-, -, -, -, -, -, G6, G7, G8⟩ := G
  have e3 : g a 3 = h a 3 := hg a 3 (by omega)
  rw [e3] at G6 G7 G8 ⊢
  have t := dtx_or (h a 3)
  intro o ho
  obtain ⟨x1, x2⟩ := value_ok (nm := nm) (zT_dtx _) hv hpt (by omega) G6 hnm (G7 nm pt hpt) o ho
  refine ⟨by rw [x1]; exact G8 pt nm hpt, fun b k q1 q2 => ?_, x2⟩
  rw [x2 b k (by omega), hg b k q1]
theorem meets_ok {a : Nat} (ha : zS a) {h : dH} {Y : zY} {y : Int32} {st : zT2} (H : SC a Y y st h) {v1 v2 : Int32} {i j : Nat} (h1 : v1.toInt = i) (h2 : v2.toInt = j) (hi : i < yN Y) (hj : j < yN Y) : Al (f_X3_meets a v1 v2 h) (fun o => o.1 = mtS Y y st i j ∧ nFr a o.2 h) := by
  have z := zS_or ha
  unfold f_X3_meets
  refine al_oV' (fun g1 q1 => al_oI (fun r2 g3 q3 => ?_))
  obtain ⟨l1, l2⟩ := look_ok ha H h1 h2 hi hj g1 q1
  obtain ⟨x1, x2, x3⟩ := cval ha H l1 l2 (pt := 0) (by omega) (v := 0) (by decide) (r2, g3) q3
  simp only at x1 x2 x3
  have G := H.n ha x2
  obtain ⟨G0, G1, G2, G3, G4, G5, -⟩ := id G
  have e1 : v1.toInt.toNat = i := by omega
  rw [e1, (G4 i hi).1, (G4 i hi).2.1]
  have t := dtx_or (h a 3)
  have e5 : g3 (a + 13) 5 = apS i j := by rw [x3 _ _ (by omega), l2 5 (by omega)]; rfl
  rw [e5]
  unfold mtS mtV
  rw [← x1]
  refine al_ite (fun _ => al_ite (fun c1 => al_some ⟨by rw [if_pos c1], x2⟩) (fun c1 => al_ite (fun c2 => al_some ⟨by rw [if_neg c1, if_pos c2], x2⟩) (fun c2 => al_ite (fun c3 => al_ite (fun _ => al_some ⟨by rw [if_neg c1, if_neg c2, if_pos c3], x2⟩) (fun _ => al_none)) (fun c3 => al_ite (fun c4 => al_ite (fun c5 => al_some ⟨by rw [if_neg c1, if_neg c2, if_neg c3, if_pos c4, if_pos c5], x2⟩) (fun c5 => al_some ⟨by rw [if_neg c1, if_neg c2, if_neg c3, if_pos c4, if_neg c5], x2⟩)) (fun c4 => al_ite (fun c5 => al_some ⟨by rw [if_neg c1, if_neg c2, if_neg c3, if_neg c4, if_pos c5], x2⟩) (fun c5 => al_some ⟨by rw [if_neg c1, if_neg c2, if_neg c3, if_neg c4, if_neg c5], x2⟩)))))) (fun _ => al_none)
theorem forgets_ok {a : Nat} (ha : zS a) {h : dH} {Y : zY} {y : Int32} {st : zT2} (H : SC a Y y st h) {v1 v2 : Int32} {i j : Nat} (h1 : v1.toInt = i) (h2 : v2.toInt = j) (hi : i < yN Y) (hj : j < yN Y) : Al (f_X3_forgets a v1 v2 h) (fun o => o.1 = fdS Y y st i j ∧ nFr a o.2 h) := by
  have z := zS_or ha
  unfold f_X3_forgets
  refine al_oV' (fun g1 q1 => al_oI (fun r2 g3 q3 => ?_))
  obtain ⟨l1, l2⟩ := look_ok ha H h1 h2 hi hj g1 q1
  obtain ⟨x1, x2, x3⟩ := cval ha H l1 l2 (pt := 1) (by omega) (v := 1) (by decide) (r2, g3) q3
  simp only at x1 x2 x3
  have G := H.n ha x2
  obtain ⟨G0, G1, G2, G3, G4, G5, -⟩ := id G
  have e1 : v1.toInt.toNat = i := by omega
  rw [e1, (G4 i hi).1, G0]
  unfold fdS fdV
  rw [← x1]
  refine al_ite (fun _ => al_ite (fun c1 => al_some ⟨by rw [if_pos c1], x2⟩) (fun c1 => al_ite (fun c2 => al_some ⟨by rw [if_neg c1, if_pos c2], x2⟩) (fun c2 => al_ite (fun c3 => al_some ⟨by rw [if_neg c1, if_neg c2, if_pos c3], x2⟩) (fun c3 => al_ite (fun c4 => al_ite (fun c5 => al_some ⟨by rw [if_neg c1, if_neg c2, if_neg c3, if_pos c4, if_pos c5], x2⟩) (fun c5 => al_some ⟨by rw [if_neg c1, if_neg c2, if_neg c3, if_pos c4, if_neg c5], x2⟩)) (fun c4 => al_some ⟨by rw [if_neg c1, if_neg c2, if_neg c3, if_neg c4], x2⟩))))) (fun _ => al_none)
theorem sounds_ok {a : Nat} (ha : zS a) {h : dH} {Y : zY} {y : Int32} {st : zT2} (H : SC a Y y st h) {v1 : Int32} {i : Nat} (h1 : v1.toInt = i) (hi : i < yN Y) (hd : st i i = 0) : Al (f_X3_sounds a v1 h) (fun o => o.1 = sdS Y y i ∧ nFr a o.2 h) := by
  have z := zS_or ha
  unfold f_X3_sounds
  refine al_oV' (fun g1 q1 => al_oH' (fun g2 q2 => al_oI (fun r2 g3 q3 => ?_)))
  obtain ⟨l1, l2⟩ := look_ok ha H h1 h1 hi hi g1 q1
  have m1 : ∀ b k, ¬ b = a + 13 → g2 b k = h b k := fun b k q => by rw [q2, dU_ne (by omega)]; exact l1 b k q
  have ap0 : apS i i = 0 := by unfold apS; rw [if_neg (Nat.lt_irrefl i), Nat.sub_self]; rfl
  have m2 : ∀ k, k < 6 → g2 (a + 13) k = nmZ Y y i k := by
    intro k hk
    have x5 : k = 0 ∨ k = 1 ∨ k = 2 ∨ k = 3 ∨ k = 4 ∨ k = 5 := by omega
    rcases x5 with rfl | rfl | rfl | rfl | rfl | rfl
    · rw [q2, dU_ne (by omega), l2 0 hk]; exact hd
    · rw [q2, dU_ne (by omega), l2 1 hk]; rfl
    · rw [q2, dU_eq]; rfl
    · rw [q2, dU_ne (by omega), l2 3 hk]; rfl
    · rw [q2, dU_ne (by omega), l2 4 hk]; rfl
    · rw [q2, dU_ne (by omega), l2 5 hk]; exact ap0
  obtain ⟨x1, x2, x3⟩ := cval ha H m1 m2 (pt := 2) (by omega) (v := 2) (by decide) (r2, g3) q3
  simp only at x1 x2 x3
  have G := H.n ha x2
  obtain ⟨G0, G1, G2, G3, G4, G5, -⟩ := id G
  have e1 : v1.toInt.toNat = i := by omega
  rw [e1, (G4 i hi).1, (G4 i hi).2.1]
  unfold sdS sdV
  rw [← x1]
  refine al_ite (fun _ => al_ite (fun c1 => al_some ⟨by rw [if_pos c1], x2⟩) (fun c1 => al_ite (fun c2 => al_some ⟨by rw [if_neg c1, if_pos c2], x2⟩) (fun c2 => al_ite (fun c3 => al_some ⟨by rw [if_neg c1, if_neg c2, if_pos c3], x2⟩) (fun c3 => al_ite (fun c4 => al_some ⟨by rw [if_neg c1, if_neg c2, if_neg c3, if_pos c4], x2⟩) (fun c4 => al_ite (fun c5 => al_ite (fun _ => al_some ⟨by rw [if_neg c1, if_neg c2, if_neg c3, if_neg c4, if_pos c5], x2⟩) (fun _ => al_none)) (fun c5 => al_some ⟨by rw [if_neg c1, if_neg c2, if_neg c3, if_neg c4, if_neg c5], x2⟩)))))) (fun _ => al_none)
end
