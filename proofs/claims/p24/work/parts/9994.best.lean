/-! what would be best: a table, a change -/
noncomputable section
/-- other tables -/
def yU (Y : zY) (tb : Nat → Int32) : zY := (yN Y, yL Y, yK Y, yB Y, tb, yE Y)
theorem SC.tab {a : Nat} (ha : zS a) {Y : zY} {y : Int32} {st : zT2} {g h : dH} (C : SC a Y y st h) {tb : Nat → Int32} (e : ∀ b k, ¬ b = a + 3 → g b k = h b k) (ht : ∀ i, i < yN Y → g (a + 3) i = tb i) : SC a (yU Y tb) y st g := by
  have z := zS_or ha
  obtain ⟨h0, h1, h2, h3, h4, h5, h6, h7, h8⟩ := C
  have t := dtx_or (h a 3)
  have e3 : g a 3 = h a 3 := e a 3 (by omega)
  obtain ⟨c1, c2, c3⟩ := tEv_congr (f := g) (g := h) (ta := dtx (h a 3)) (fun k => e _ k (by omega)) (fun k => e _ k (by omega))
  refine ⟨by rw [e a 0 (by omega)]; exact h0, by rw [e a 1 (by omega)]; exact h1, by rw [e a 2 (by omega)]; exact h2, h3, fun i hi => ⟨?_, ?_, ht i hi⟩, fun i j hi hj => ?_, ?_, ?_, ?_⟩
  · rw [e (a + 1) i (by omega)]; exact (h4 i hi).1
  · rw [e (a + 2) i (by omega)]; exact (h4 i hi).2.1
  · rw [e (a + 5 + i) j (by omega)]; exact h5 i j hi hj
  · rw [e3]; exact c1.mpr h6
  · rw [e3]; exact fun nm pt hp => by rw [c2]; exact h7 nm pt hp
  · rw [e3]; exact fun pt nm hp => by rw [c3]; exact h8 pt nm hp
/-- all but what it scribbles, and the tables -/
def tFr (g h : dH) : Prop := ∀ a k, ¬ (a = 0 ∧ 14 ≤ k ∧ k ≤ 28) → ¬ (a = 0 ∧ k = 34) → ¬ (8 ≤ a ∧ a ≤ 10) → ¬ (a = 7 ∧ 64 ≤ k) → ¬ a = 6 → g a k = h a k
theorem tFr.refl (h : dH) : tFr h h := fun _ _ _ _ _ _ _ => rfl
theorem tFr.trans {f g h : dH} (q : tFr f g) (r : tFr g h) : tFr f h := fun a k x y z w v => (q a k x y z w v).trans (r a k x y z w v)
theorem bFr.t {g h : dH} (q : bFr g h) : tFr g h := fun a k x y z w _ => q a k x y z w
theorem bFr.six {g h : dH} (q : bFr g h) (k : Nat) : g 6 k = h 6 k := q 6 k (by omega) (by omega) (by omega) (by omega)
theorem tFr.b {g h : dH} (q : tFr g h) (h6 : ∀ k, g 6 k = h 6 k) : bFr g h := fun a k x y z w => by
  by_cases e : a = 6
  · rw [e]; exact h6 k
  · exact q a k x y z w e
theorem SM.tab {Y : zY} {y : Int32} {st : zT2} {g h : dH} (M : SM Y y st h) {tb : Nat → Int32} (q : tFr g h) (ht : ∀ i, i < yN Y → g 6 i = tb i) : SM (yU Y tb) y st g := by
  obtain ⟨h0, h1, h2, h3, h4, h5, h6⟩ := M
  have e : ∀ a k, ¬ (a = 0 ∧ 14 ≤ k ∧ k ≤ 28) → ¬ (a = 0 ∧ k = 34) → ¬ (8 ≤ a ∧ a ≤ 10) → ¬ (a = 7 ∧ 64 ≤ k) → ¬ a = 6 → g a k = h a k := q
  refine ⟨by rw [e 0 7 (by omega) (by omega) (by omega) (by omega) (by omega)]; exact h0, by rw [e 0 8 (by omega) (by omega) (by omega) (by omega) (by omega)]; exact h1, by rw [e 0 13 (by omega) (by omega) (by omega) (by omega) (by omega)]; exact h2, h3, fun i hi => ⟨?_, ?_, ht i hi⟩, fun i j hi hj => ?_, h6.same (fun k => e 1 k (by omega) (by omega) (by omega) (by omega) (by omega)) (fun k => e 2 k (by omega) (by omega) (by omega) (by omega) (by omega)) (e 0 4 (by omega) (by omega) (by omega) (by omega) (by omega))⟩
  · rw [e 4 i (by omega) (by omega) (by omega) (by omega) (by omega)]; exact (h4 i hi).1
  · rw [e 5 i (by omega) (by omega) (by omega) (by omega) (by omega)]; exact (h4 i hi).2.1
  · have hi' : i < 8 := Nat.lt_of_lt_of_le hi h3
    have hj' : j < 8 := Nat.lt_of_lt_of_le hj h3
    rw [e 7 _ (by omega) (by omega) (by omega) (by omega) (by omega)]; exact h5 i j hi hj
theorem mNo.t {g h : dH} (q : tFr g h) (n : mNo h) : mNo g := by
  unfold mNo at n ⊢
  rw [q 0 29 (by omega) (by omega) (by omega) (by omega) (by omega), q 0 30 (by omega) (by omega) (by omega) (by omega) (by omega), q 0 31 (by omega) (by omega) (by omega) (by omega) (by omega)]
  exact n
theorem Yr.u {Y : zY} (R : Yr Y) (tb : Nat → Int32) : Yr (yU Y tb) := R
/-- the first of the best -/
def fbS (f : Nat → Int32) (b : Int32 × Int32) : Nat → Int32 × Int32
  | 0 => b
  | t + 1 => if (fbS f b t).2.toInt < (f t).toInt then (Int32.ofNat t, f t) else fbS f b t
def upT (tb : Nat → Int32) (i : Nat) (v : Int32) : Nat → Int32 := fun k => if k = i then v else tb k
theorem best_34 {Y : zY} (R : Yr Y) {y : Int32} {st : zT2} (W : Wf (yN Y) st) {v1 v2 : Int32} {i m : Nat} (h1 : v1.toInt = i) (hi : i < yN Y) (h2 : v2.toInt = m) (hm : m < 1000) {h0 : dH} (C0 : SC 43 Y y st h0) {k : Int32 → Int32 → dH → Option (Int32 × dH)} {P : Int32 × dH → Prop} (Kk : ∀ g, cV g h0 → Al (k (fbS (fun t => frN (yU Y (upT (yT Y) i (Int32.ofNat t))) y st m) (-1, -1) 4).1 (fbS (fun t => frN (yU Y (upT (yT Y) i (Int32.ofNat t))) y st m) (-1, -1) 4).2 g) P) : ∀ (n : Nat) (v4 v5 v6 : Int32) (h : dH), 0 ≤ v6.toInt → v6.toInt ≤ 4 → v4 = (fbS (fun t => frN (yU Y (upT (yT Y) i (Int32.ofNat t))) y st m) (-1, -1) v6.toInt.toNat).1 → v5 = (fbS (fun t => frN (yU Y (upT (yT Y) i (Int32.ofNat t))) y st m) (-1, -1) v6.toInt.toNat).2 → cV h h0 → Al (l_X6_best_34 v1 v2 k n v4 v5 v6 h) P
  | 0, _, _, _, _, _, _, _, _, _ => al_none
  | n + 1, v4, v5, v6, h, p0, p1, e4, e5, V => by
    have hN8 := C0.2.2.2.1
    rw [l_X6_best_34]
    have t := inc1 (v := v6) (by omega)
    obtain ⟨p, hp⟩ : ∃ p, v6.toInt.toNat = p := ⟨_, rfl⟩
    have en : (v6 + 1).toInt.toNat = p + 1 := by omega
    have ei : v1.toInt.toNat = i := by omega
    rw [hp] at e4 e5
    rw [ei]
    refine al_ite (fun c => al_oV' (fun g12 h12 => al_ite (fun _ => al_oH' (fun g13 h13 => al_oI (fun r g hr => ?_))) (fun _ => al_none))) (fun c => ?_)
    · have C : SC 43 Y y st h := C0.keep isZ43 (fun b k hb => V b k (by omega))
      have b := become_ok isZ57 isZ43 (by decide) h g12 h12
      have C13 : SC 57 (yU Y (upT (yT Y) i (Int32.ofNat p))) y st g13 := by
        refine (b.sc isZ57 isZ43 C).tab isZ57 (fun b k q => by rw [h13, dU_ne (by omega)]) (fun j hj => ?_)
        have s := ((b.sc isZ57 isZ43 C).2.2.2.2.1 j hj).2.2
        unfold upT
        by_cases e : j = i
        · rw [if_pos e, e, h13, dU_eq]; exact i32_of (by omega)
        · rw [if_neg e, h13, dU_ne (by omega)]; exact s
      obtain ⟨x1, x2, x3⟩ := pass_ok (Y := yU Y (upT (yT Y) i (Int32.ofNat p))) isZ57 (R.u _) W h2 hm C13 (r, g) hr
      simp only at x1 x2 x3
      have v13 : cV g13 g12 := fun a k x => by rw [h13, dU_ne (by omega)]
      have vg : cV g h0 := (x3.v hN8).trans (v13.trans (b.v.trans V))
      refine al_ite (fun z => best_34 R W h1 hi h2 hm C0 Kk n _ _ (v6 + 1) g (by omega) (by omega) ?_ ?_ vg) (fun z => best_34 R W h1 hi h2 hm C0 Kk n _ _ (v6 + 1) g (by omega) (by omega) ?_ ?_ vg)
      · rw [en, fbS, if_pos (by rw [← e5, ← x1]; exact z)]; exact i32_of (by omega)
      · rw [en, fbS, if_pos (by rw [← e5, ← x1]; exact z)]; exact x1
      · rw [en, fbS, if_neg (by rw [← e5, ← x1]; exact z)]; exact e4
      · rw [en, fbS, if_neg (by rw [← e5, ← x1]; exact z)]; exact e5
    · rw [show p = 4 by omega] at e4 e5
      rw [e4, e5]
      exact Kk h V
theorem mbest_50 {Y : zY} {y : Int32} {st : zT2} {v1 v2 : Int32} {i m : Nat} (h1 : v1.toInt = i) (hi : i < yN Y) (h2 : v2.toInt = m) (hm : m < 1000) {h0 : dH} (M0 : SM Y y st h0) (n0 : mNo h0) {k : Int32 → Int32 → dH → Option (Int32 × dH)} {P : Int32 × dH → Prop} (Kk : ∀ g, tFr g h0 → (∀ j, ¬ j = i → g 6 j = h0 6 j) → Al (k (fbS (fun t => frN (yU Y (upT (yT Y) i (Int32.ofNat t))) y st m) (-1, -1) 4).1 (fbS (fun t => frN (yU Y (upT (yT Y) i (Int32.ofNat t))) y st m) (-1, -1) 4).2 g) P) : ∀ (n : Nat) (v4 v5 v6 : Int32) (h : dH), 0 ≤ v6.toInt → v6.toInt ≤ 4 → v4 = (fbS (fun t => frN (yU Y (upT (yT Y) i (Int32.ofNat t))) y st m) (-1, -1) v6.toInt.toNat).1 → v5 = (fbS (fun t => frN (yU Y (upT (yT Y) i (Int32.ofNat t))) y st m) (-1, -1) v6.toInt.toNat).2 → tFr h h0 → (∀ j, ¬ j = i → h 6 j = h0 6 j) → Al (l_X7_best_50 v1 v2 k n v4 v5 v6 h) P
  | 0, _, _, _, _, _, _, _, _, _, _ => al_none
  | n + 1, v4, v5, v6, h, p0, p1, e4, e5, F, F6 => by
    rw [l_X7_best_50]
    have t := inc1 (v := v6) (by omega)
    obtain ⟨p, hp⟩ : ∃ p, v6.toInt.toNat = p := ⟨_, rfl⟩
    have en : (v6 + 1).toInt.toNat = p + 1 := by omega
    have ei : v1.toInt.toNat = i := by omega
    rw [hp] at e4 e5
    rw [ei]
    refine al_ite (fun c => al_ite (fun _ => al_oH' (fun g13 h13 => al_oI (fun r g hr => ?_))) (fun _ => al_none)) (fun c => ?_)
    · have F13 : tFr g13 h0 := fun a k x1 x2 x3 x4 x5 => by rw [h13, dU_ne (by omega)]; exact F a k x1 x2 x3 x4 x5
      have M13 : SM (yU Y (upT (yT Y) i (Int32.ofNat p))) y st g13 := by
        refine M0.tab F13 (fun j hj => ?_)
        unfold upT
        by_cases e : j = i
        · rw [if_pos e, e, h13, dU_eq]; exact i32_of (by omega)
        · rw [if_neg e, h13, dU_ne (by omega), F6 j e]; exact (M0.2.2.2.2.1 j hj).2.2
      obtain ⟨x1, x2⟩ := friendsBehind_ok h2 hm M13 (mNo.t F13 n0) (r, g) hr
      simp only at x1 x2
      have Fg : tFr g h0 := x2.t.trans F13
      have Fg6 : ∀ j, ¬ j = i → g 6 j = h0 6 j := fun j hj => by rw [x2.six, h13, dU_ne (by omega)]; exact F6 j hj
      refine al_ite (fun z => mbest_50 h1 hi h2 hm M0 n0 Kk n _ _ (v6 + 1) g (by omega) (by omega) ?_ ?_ Fg Fg6) (fun z => mbest_50 h1 hi h2 hm M0 n0 Kk n _ _ (v6 + 1) g (by omega) (by omega) ?_ ?_ Fg Fg6)
      · rw [en, fbS, if_pos (by rw [← e5, ← x1]; exact z)]; exact i32_of (by omega)
      · rw [en, fbS, if_pos (by rw [← e5, ← x1]; exact z)]; exact x1
      · rw [en, fbS, if_neg (by rw [← e5, ← x1]; exact z)]; exact e4
      · rw [en, fbS, if_neg (by rw [← e5, ← x1]; exact z)]; exact e5
    · rw [show p = 4 by omega] at e4 e5
      rw [e4, e5]
      exact Kk h F F6
theorem op_best {hC hM : dH} (q : RR hC hM) (v1 v2 v3 : Int32) : Op2 (f_X6_best v1 v2 v3 hC) (f_X7_best v1 v2 v3 hM) := by
  obtain ⟨C, M, W, R, T⟩ := q.st
  have l0 := L0
  have l1 := L1
  have l20 := L20
  have M2 := M.2.2.1
  have M3 := M.2.2.2.1
  unfold Op2 f_X6_best
  have ref : (¬ (0 ≤ v1.toInt ∧ v1.toInt < yN (yOf 43 hC)) ∨ ¬ (0 ≤ v2.toInt ∧ v2.toInt ≤ 20) ∨ ¬ (v3.toInt = 0 ∨ v3.toInt = 1)) → Al (some ((-2 : Int32), hC)) (fun o => Al (f_X7_best v1 v2 v3 hM) (fun o2 => o.1 = o2.1 ∧ RR o.2 o2.2)) := by
    intro w
    refine al_some (al_house7 M2 M3 (fun r5 q5 => al_ite (fun _ => al_some ⟨rfl, q⟩) (fun z => al_in (fun r qr => al_ite (fun _ => al_some ⟨rfl, q⟩) (fun z => al_in (fun r2 q2 => al_ite (fun _ => al_some ⟨rfl, q⟩) (fun z => by omega)))))))
  refine al_house6 C.2.2.1 (fun r1 q1 => al_ite (fun c => ref (by omega)) (fun c => al_oP (fun r2 h2 => ?_)))
  have q2 := years6 r2 h2
  refine al_ite (fun d => ref (by omega)) (fun d => al_oP (fun r3 h3 => ?_))
  have q3 := either6 r3 h3
  refine al_ite (fun e => ref (by omega)) (fun e => ?_)
  refine best_34 R W (i := v1.toInt.toNat) (m := v2.toInt.toNat) (by omega) (by omega) (by omega) (by omega) C (fun g V => ?_) fuel0 (-1) (-1) 0 hC (by decide) (by decide) (by rw [ti0]; rfl) (by rw [ti0]; rfl) (cV.refl _)
  have mm : ∀ (x : Int32), x = (if v3.toInt = 0 then (fbS (fun t => frN (yU (yOf 43 hC) (upT (yT (yOf 43 hC)) v1.toInt.toNat (Int32.ofNat t))) (hC 43 0) (stOf 43 hC) v2.toInt.toNat) (-1, -1) 4).1 else (fbS (fun t => frN (yU (yOf 43 hC) (upT (yT (yOf 43 hC)) v1.toInt.toNat (Int32.ofNat t))) (hC 43 0) (stOf 43 hC) v2.toInt.toNat) (-1, -1) 4).2) → Al (f_X7_best v1 v2 v3 hM) (fun o2 => x = o2.1 ∧ RR g o2.2) := by
    intro x hx
    refine al_house7 M2 M3 (fun r5 q5 => al_ite (fun z => by omega) (fun z => al_in (fun r qr => al_ite (fun z => by omega) (fun z => al_in (fun r2 q2 => al_ite (fun z => by omega) (fun z => al_ite (fun _ => ?_) (fun _ => al_none)))))))
    refine mbest_50 (i := v1.toInt.toNat) (m := v2.toInt.toNat) (by omega) (by omega) (by omega) (by omega) M q.2.2.2.2.2 (fun gm F F6 => al_ite (fun _ => al_oH' (fun g24 h24 => ?_)) (fun _ => al_none)) fuel0 (-1) (-1) 0 hM (by decide) (by decide) (by rw [ti0]; rfl) (by rw [ti0]; rfl) (tFr.refl _) (fun _ _ => rfl)
    have F24 : bFr g24 hM := tFr.b (fun a k x1 x2 x3 x4 x5 => by rw [h24, dU_ne (by omega)]; exact F a k x1 x2 x3 x4 x5) (fun k => by
      by_cases e : k = v1.toInt.toNat
      · rw [e, h24, dU_eq]
      · rw [h24, dU_ne (by omega)]; exact F6 k e)
    have kk := q.keep V F24
    refine al_ite (fun z => al_some ⟨?_, kk⟩) (fun z => al_some ⟨?_, kk⟩)
    · rw [hx, if_pos z]
    · rw [hx, if_neg z]
  exact al_ite (fun z => al_some (mm _ (if_pos z).symm)) (fun z => al_some (mm _ (if_neg z).symm))
/-! a change -/
def swT (tb : Nat → Int32) (i j : Nat) : Nat → Int32 := fun k => if k = i then tb j else if k = j then tb i else tb k
def chS (Y : zY) (y : Int32) (st : zT2) (m : Nat) (i j : Nat) (s : Int32 × Int32) : Int32 × Int32 :=
  if (yT Y i).toInt = -1 then s else if (yT Y j).toInt = -1 then s else if (yT Y i).toInt = (yT Y j).toInt then s else if s.2.toInt < (frN (yU Y (swT (yT Y) i j)) y st m).toInt then (10 * Int32.ofNat i + Int32.ofNat j, frN (yU Y (swT (yT Y) i j)) y st m) else s
section CH
variable {Y : zY} {y : Int32} {st : zT2} {m i j : Nat} {s : Int32 × Int32}
theorem ch1 (h : (yT Y i).toInt = -1) : chS Y y st m i j s = s := if_pos h
theorem ch2 (h1 : ¬ (yT Y i).toInt = -1) (h : (yT Y j).toInt = -1) : chS Y y st m i j s = s := (if_neg h1).trans (if_pos h)
theorem ch3 (h1 : ¬ (yT Y i).toInt = -1) (h2 : ¬ (yT Y j).toInt = -1) (h : (yT Y i).toInt = (yT Y j).toInt) : chS Y y st m i j s = s := (if_neg h1).trans ((if_neg h2).trans (if_pos h))
theorem ch4 (h1 : ¬ (yT Y i).toInt = -1) (h2 : ¬ (yT Y j).toInt = -1) (h3 : ¬ (yT Y i).toInt = (yT Y j).toInt) (h : s.2.toInt < (frN (yU Y (swT (yT Y) i j)) y st m).toInt) : chS Y y st m i j s = (10 * Int32.ofNat i + Int32.ofNat j, frN (yU Y (swT (yT Y) i j)) y st m) := (if_neg h1).trans ((if_neg h2).trans ((if_neg h3).trans (if_pos h)))
theorem ch5 (h1 : ¬ (yT Y i).toInt = -1) (h2 : ¬ (yT Y j).toInt = -1) (h3 : ¬ (yT Y i).toInt = (yT Y j).toInt) (h : ¬ s.2.toInt < (frN (yU Y (swT (yT Y) i j)) y st m).toInt) : chS Y y st m i j s = s := (if_neg h1).trans ((if_neg h2).trans ((if_neg h3).trans (if_neg h)))
end CH
theorem change_61 {Y : zY} (R : Yr Y) {y : Int32} {st : zT2} (W : Wf (yN Y) st) {v1 v5 : Int32} {i m : Nat} (h1 : v1.toInt = m) (hm : m < 1000) (h5 : v5.toInt = i) (hi : i < yN Y) {h0 : dH} (C0 : SC 43 Y y st h0) {s0 : Int32 × Int32} {k : Int32 → Int32 → dH → Option (Int32 × dH)} {P : Int32 × dH → Prop} (Kk : ∀ g, cV g h0 → Al (k (fIn (chS Y y st m) i (yN Y) s0).1 (fIn (chS Y y st m) i (yN Y) s0).2 g) P) : ∀ (n : Nat) (v3 v4 v6 : Int32) (h : dH), i < v6.toInt → v6.toInt ≤ yN Y → v3 = (fIn (chS Y y st m) i v6.toInt.toNat s0).1 → v4 = (fIn (chS Y y st m) i v6.toInt.toNat s0).2 → cV h h0 → Al (l_X6_change_61 v1 v5 k n v3 v4 v6 h) P
  | 0, _, _, _, _, _, _, _, _, _ => al_none
  | n + 1, v3, v4, v6, h, p0, p1, e3, e4, V => by
    have hN8 := C0.2.2.2.1
    have C : SC 43 Y y st h := C0.keep isZ43 (fun b k hb => V b k (by omega))
    obtain ⟨H0, H1, H2, H3, H4, H5, -⟩ := id C
    rw [l_X6_change_61, H2]
    have t := inc1 (v := v6) (by omega)
    obtain ⟨j, hj⟩ : ∃ j, v6.toInt.toNat = j := ⟨_, rfl⟩
    have en : (v6 + 1).toInt.toNat = j + 1 := by omega
    have ei : v5.toInt.toNat = i := by omega
    rw [hj] at e3 e4
    rw [ei, hj]
    refine al_ite (fun c => al_oP (fun r14 h14 => ?_)) (fun c => ?_)
    · have hjN : j < yN Y := by omega
      have ti := (H4 i hi).2.2
      have tj := (H4 j hjN).2.2
      have ef : fIn (chS Y y st m) i (j + 1) s0 = chS Y y st m i j (fIn (chS Y y st m) i j s0) := by rw [fIn, if_pos (by omega)]
      have cc : Al (f_X6_canChange v5 v6 h) (fun r => (r.toInt = 0 ∧ ∀ s, chS Y y st m i j s = s) ∨ (r.toInt = 1 ∧ ¬ (yT Y i).toInt = -1 ∧ ¬ (yT Y j).toInt = -1 ∧ ¬ (yT Y i).toInt = (yT Y j).toInt)) := by
        unfold f_X6_canChange
        rw [ei, hj]
        rw [ti, tj]
        exact al_ite (fun _ => al_ite (fun _ => al_ite (fun z1 => al_some (Or.inl ⟨ti0, fun s => ch1 z1⟩)) (fun z1 => al_ite (fun z2 => al_some (Or.inl ⟨ti0, fun s => ch2 z1 z2⟩)) (fun z2 => al_ite (fun z3 => al_some (Or.inl ⟨ti0, fun s => ch3 z1 z2 z3⟩)) (fun z3 => al_some (Or.inr ⟨ti1, z1, z2, z3⟩))))) (fun _ => al_none)) (fun _ => al_none)
      rcases cc r14 h14 with ⟨a1, a2⟩ | ⟨a1, z1, z2, z3⟩
      · rw [if_pos a1]
        exact change_61 R W h1 hm h5 hi C0 Kk n v3 v4 (v6 + 1) h (by omega) (by omega) (by rw [en, ef, a2]; exact e3) (by rw [en, ef, a2]; exact e4) V
      · rw [if_neg (by omega)]
        refine al_oV' (fun g17 h17 => al_ite (fun _ => al_ite (fun _ => al_oH' (fun g19 h19 => al_ite (fun _ => al_ite (fun _ => al_oH' (fun g22 h22 => al_oI (fun r g hr => ?_))) (fun _ => al_none)) (fun _ => al_none))) (fun _ => al_none)) (fun _ => al_none))
        have b := become_ok isZ57 isZ43 (by decide) h g17 h17
        have Cb := b.sc isZ57 isZ43 C
        have C22 : SC 57 (yU Y (swT (yT Y) i j)) y st g22 := by
          refine Cb.tab isZ57 (fun b k q => by rw [h22, dU_ne (by omega), h19, dU_ne (by omega)]) (fun p hp => ?_)
          have s := (Cb.2.2.2.2.1 p hp).2.2
          have o : ∀ k, g17 (43 + 3) k = h (43 + 3) k := fun k => b.2.2.2.2.2.2 _ k (by omega)
          unfold swT
          by_cases e : p = i
          · rw [if_pos e, e, h22, dU_ne (by omega), h19, dU_eq, o, tj]
          · rw [if_neg e]
            by_cases e2 : p = j
            · rw [if_pos e2, e2, h22, dU_eq, h19, dU_ne (by omega), o, ti]
            · rw [if_neg e2, h22, dU_ne (by omega), h19, dU_ne (by omega)]; exact s
        obtain ⟨x1, x2, x3⟩ := pass_ok (Y := yU Y (swT (yT Y) i j)) isZ57 (R.u _) W h1 hm C22 (r, g) hr
        simp only at x1 x2 x3
        have v22 : cV g22 g17 := fun a k x => by rw [h22, dU_ne (by omega), h19, dU_ne (by omega)]
        have vg : cV g h0 := (x3.v hN8).trans (v22.trans (b.v.trans V))
        have e5 := i32_of h5
        have e6 := i32_of (show v6.toInt = j by omega)
        refine al_ite (fun z => change_61 R W h1 hm h5 hi C0 Kk n _ _ (v6 + 1) g (by omega) (by omega) ?_ ?_ vg) (fun z => change_61 R W h1 hm h5 hi C0 Kk n _ _ (v6 + 1) g (by omega) (by omega) ?_ ?_ vg)
        · rw [en, ef, ch4 z1 z2 z3 (by rw [← e4, ← x1]; exact z), e5, e6]
        · rw [en, ef, ch4 z1 z2 z3 (by rw [← e4, ← x1]; exact z)]; exact x1
        · rw [en, ef, ch5 z1 z2 z3 (by rw [← e4, ← x1]; exact z)]; exact e3
        · rw [en, ef, ch5 z1 z2 z3 (by rw [← e4, ← x1]; exact z)]; exact e4
    · rw [show j = yN Y by omega] at e3 e4
      rw [e3, e4]
      exact Kk h V
theorem change_43 {Y : zY} (R : Yr Y) {y : Int32} {st : zT2} (W : Wf (yN Y) st) {v1 : Int32} {m : Nat} (h1 : v1.toInt = m) (hm : m < 1000) {h0 : dH} (C0 : SC 43 Y y st h0) {s0 : Int32 × Int32} {k : Int32 → Int32 → dH → Option (Int32 × dH)} {P : Int32 × dH → Prop} (Kk : ∀ g, cV g h0 → Al (k (fOut (chS Y y st m) (yN Y) (yN Y) s0).1 (fOut (chS Y y st m) (yN Y) (yN Y) s0).2 g) P) : ∀ (n : Nat) (v3 v4 v5 : Int32) (h : dH), 0 ≤ v5.toInt → v5.toInt ≤ yN Y → v3 = (fOut (chS Y y st m) (yN Y) v5.toInt.toNat s0).1 → v4 = (fOut (chS Y y st m) (yN Y) v5.toInt.toNat s0).2 → cV h h0 → Al (l_X6_change_43 v1 k n v3 v4 v5 h) P
  | 0, _, _, _, _, _, _, _, _, _ => al_none
  | n + 1, v3, v4, v5, h, p0, p1, e3, e4, V => by
    have hN8 := C0.2.2.2.1
    have C : SC 43 Y y st h := C0.keep isZ43 (fun b k hb => V b k (by omega))
    rw [l_X6_change_43, C.2.2.1]
    have t := inc1 (v := v5) (by omega)
    have en : (v5 + 1).toInt.toNat = v5.toInt.toNat + 1 := by omega
    refine al_ite (fun c => ?_) (fun c => ?_)
    · refine change_61 R W h1 hm (i := v5.toInt.toNat) (by omega) (by omega) C0 (s0 := fOut (chS Y y st m) (yN Y) v5.toInt.toNat s0) (fun g Vg => ?_) fuel0 v3 v4 (v5 + 1) h (by omega) (by omega) (by rw [fIn_le _ (by omega)]; exact e3) (by rw [fIn_le _ (by omega)]; exact e4) V
      exact change_43 R W h1 hm C0 Kk n _ _ (v5 + 1) g (by omega) (by omega) (by rw [en]; rfl) (by rw [en]; rfl) Vg
    · rw [show v5.toInt.toNat = yN Y by omega] at e3 e4
      rw [e3, e4]
      exact Kk h V
theorem mchange_52 {Y : zY} {y : Int32} {st : zT2} {v1 v5 : Int32} {i m : Nat} (h1 : v1.toInt = m) (hm : m < 1000) (h5 : v5.toInt = i) (hi : i < yN Y) {h0 : dH} (M0 : SM Y y st h0) (n0 : mNo h0) {s0 : Int32 × Int32} {k : Int32 → Int32 → dH → Option (Int32 × dH)} {P : Int32 × dH → Prop} (Kk : ∀ g, bFr g h0 → Al (k (fIn (chS Y y st m) i (yN Y) s0).1 (fIn (chS Y y st m) i (yN Y) s0).2 g) P) : ∀ (n : Nat) (v3 v4 v6 : Int32) (h : dH), i < v6.toInt → v6.toInt ≤ yN Y → v3 = (fIn (chS Y y st m) i v6.toInt.toNat s0).1 → v4 = (fIn (chS Y y st m) i v6.toInt.toNat s0).2 → bFr h h0 → Al (l_X7_change_52 v1 v5 k n v3 v4 v6 h) P
  | 0, _, _, _, _, _, _, _, _, _ => al_none
  | n + 1, v3, v4, v6, h, p0, p1, e3, e4, V => by
    have hN8 := M0.2.2.2.1
    have M : SM Y y st h := M0.b V
    obtain ⟨H0, H1, H2, H3, H4, H5, -⟩ := id M
    rw [l_X7_change_52, H2]
    have t := inc1 (v := v6) (by omega)
    obtain ⟨j, hj⟩ : ∃ j, v6.toInt.toNat = j := ⟨_, rfl⟩
    have en : (v6 + 1).toInt.toNat = j + 1 := by omega
    have ei : v5.toInt.toNat = i := by omega
    rw [hj] at e3 e4
    rw [ei, hj]
    refine al_ite (fun c => ?_) (fun c => ?_)
    · have hjN : j < yN Y := by omega
      have ti := (H4 i hi).2.2
      have tj := (H4 j hjN).2.2
      have ef : fIn (chS Y y st m) i (j + 1) s0 = chS Y y st m i j (fIn (chS Y y st m) i j s0) := by rw [fIn, if_pos (by omega)]
      have stay : (∀ s, chS Y y st m i j s = s) → Al (l_X7_change_52 v1 v5 k n v3 v4 (v6 + 1) h) P := fun a2 => mchange_52 h1 hm h5 hi M0 n0 Kk n v3 v4 (v6 + 1) h (by omega) (by omega) (by rw [en, ef, a2]; exact e3) (by rw [en, ef, a2]; exact e4) V
      rw [ti, tj]
      refine al_ite (fun _ => al_ite (fun _ => al_ite (fun z1 => stay (fun s => ch1 z1)) (fun z1 => al_ite (fun z2 => stay (fun s => ch2 z1 z2)) (fun z2 => al_ite (fun z3 => stay (fun s => ch3 z1 z2 z3)) (fun z3 => al_ite (fun _ => al_oH' (fun g21 h21 => al_ite (fun _ => al_oH' (fun g23 h23 => al_oI (fun r g26 hr => al_ite (fun _ => al_oH' (fun g27 h27 => al_ite (fun _ => al_oH' (fun g h29 => ?_)) (fun _ => al_none))) (fun _ => al_none)))) (fun _ => al_none))) (fun _ => al_none))))) (fun _ => al_none)) (fun _ => al_none)
      have F23 : tFr g23 h := fun a k x1 x2 x3 x4 x5 => by rw [h23, dU_ne (by omega), h21, dU_ne (by omega)]
      have M23 : SM (yU Y (swT (yT Y) i j)) y st g23 := by
        refine M.tab F23 (fun p hp => ?_)
        unfold swT
        by_cases e : p = i
        · rw [if_pos e, e, h23, dU_ne (by omega), h21, dU_eq]
        · rw [if_neg e]
          by_cases e2 : p = j
          · rw [if_pos e2, e2, h23, dU_eq]
          · rw [if_neg e2, h23, dU_ne (by omega), h21, dU_ne (by omega)]; exact (H4 p hp).2.2
      obtain ⟨x1, x2⟩ := friendsBehind_ok h1 hm M23 (mNo.t F23 (mNo.b V n0)) (r, g26) hr
      simp only at x1 x2
      have vg : bFr g h0 := bFr.trans (tFr.b (fun a k y1 y2 y3 y4 y5 => by rw [h29, dU_ne (by omega), h27, dU_ne (by omega), x2 a k y1 y2 y3 y4]; exact F23 a k y1 y2 y3 y4 y5) (fun p => by
        by_cases e2 : p = j
        · rw [e2, h29, dU_eq, tj]
        · rw [h29, dU_ne (by omega)]
          by_cases e : p = i
          · rw [e, h27, dU_eq, ti]
          · rw [h27, dU_ne (by omega), x2.six, h23, dU_ne (by omega), h21, dU_ne (by omega)])) V
      have e5 := i32_of h5
      have e6 := i32_of (show v6.toInt = j by omega)
      refine al_ite (fun z => mchange_52 h1 hm h5 hi M0 n0 Kk n _ _ (v6 + 1) g (by omega) (by omega) ?_ ?_ vg) (fun z => mchange_52 h1 hm h5 hi M0 n0 Kk n _ _ (v6 + 1) g (by omega) (by omega) ?_ ?_ vg)
      · rw [en, ef, ch4 z1 z2 z3 (by rw [← e4, ← x1]; exact z), e5, e6]
      · rw [en, ef, ch4 z1 z2 z3 (by rw [← e4, ← x1]; exact z)]; exact x1
      · rw [en, ef, ch5 z1 z2 z3 (by rw [← e4, ← x1]; exact z)]; exact e3
      · rw [en, ef, ch5 z1 z2 z3 (by rw [← e4, ← x1]; exact z)]; exact e4
    · rw [show j = yN Y by omega] at e3 e4
      rw [e3, e4]
      exact Kk h V
theorem mchange_37 {Y : zY} {y : Int32} {st : zT2} {v1 : Int32} {m : Nat} (h1 : v1.toInt = m) (hm : m < 1000) {h0 : dH} (M0 : SM Y y st h0) (n0 : mNo h0) {s0 : Int32 × Int32} {k : Int32 → Int32 → dH → Option (Int32 × dH)} {P : Int32 × dH → Prop} (Kk : ∀ g, bFr g h0 → Al (k (fOut (chS Y y st m) (yN Y) (yN Y) s0).1 (fOut (chS Y y st m) (yN Y) (yN Y) s0).2 g) P) : ∀ (n : Nat) (v3 v4 v5 : Int32) (h : dH), 0 ≤ v5.toInt → v5.toInt ≤ yN Y → v3 = (fOut (chS Y y st m) (yN Y) v5.toInt.toNat s0).1 → v4 = (fOut (chS Y y st m) (yN Y) v5.toInt.toNat s0).2 → bFr h h0 → Al (l_X7_change_37 v1 k n v3 v4 v5 h) P
  | 0, _, _, _, _, _, _, _, _, _ => al_none
  | n + 1, v3, v4, v5, h, p0, p1, e3, e4, V => by
    have hN8 := M0.2.2.2.1
    rw [l_X7_change_37, (M0.b V).2.2.1]
    have t := inc1 (v := v5) (by omega)
    have en : (v5 + 1).toInt.toNat = v5.toInt.toNat + 1 := by omega
    refine al_ite (fun c => ?_) (fun c => ?_)
    · refine mchange_52 h1 hm (i := v5.toInt.toNat) (by omega) (by omega) M0 n0 (s0 := fOut (chS Y y st m) (yN Y) v5.toInt.toNat s0) (fun g Vg => ?_) fuel0 v3 v4 (v5 + 1) h (by omega) (by omega) (by rw [fIn_le _ (by omega)]; exact e3) (by rw [fIn_le _ (by omega)]; exact e4) V
      exact mchange_37 h1 hm M0 n0 Kk n _ _ (v5 + 1) g (by omega) (by omega) (by rw [en]; rfl) (by rw [en]; rfl) Vg
    · rw [show v5.toInt.toNat = yN Y by omega] at e3 e4
      rw [e3, e4]
      exact Kk h V
theorem op_change {hC hM : dH} (q : RR hC hM) (v1 v2 : Int32) : Op2 (f_X6_change v1 v2 hC) (f_X7_change v1 v2 hM) := by
  obtain ⟨C, M, W, R, T⟩ := q.st
  have l0 := L0
  have l1 := L1
  have l20 := L20
  unfold Op2 f_X6_change
  have ref : (¬ (0 ≤ v1.toInt ∧ v1.toInt ≤ 20) ∨ ¬ (v2.toInt = 0 ∨ v2.toInt = 1)) → Al (some ((-2 : Int32), hC)) (fun o => Al (f_X7_change v1 v2 hM) (fun o2 => o.1 = o2.1 ∧ RR o.2 o2.2)) := by
    intro w
    refine al_some (al_in (fun r qr => al_ite (fun _ => al_some ⟨rfl, q⟩) (fun z => al_in (fun r2 q2 => al_ite (fun _ => al_some ⟨rfl, q⟩) (fun z => by omega)))))
  refine al_oP (fun r2 h2 => ?_)
  have q2 := years6 r2 h2
  refine al_ite (fun d => ref (by omega)) (fun d => al_oP (fun r3 h3 => ?_))
  have q3 := either6 r3 h3
  have hv : v1.toInt = (v1.toInt.toNat : Int) := by omega
  refine al_ite (fun e => ref (by omega)) (fun e => al_oV' (fun g7 h7 => al_oI (fun r8 g9 h9 => ?_)))
  have b := become_ok isZ57 isZ43 (by decide) hC g7 h7
  obtain ⟨x1, x2, x3⟩ := pass_ok isZ57 R W hv (by omega) (b.sc isZ57 isZ43 C) (r8, g9) h9
  simp only at x1 x2 x3
  refine change_43 R W hv (by omega) C (s0 := (-1, frN (yOf 43 hC) (hC 43 0) (stOf 43 hC) v1.toInt.toNat)) (fun g V => ?_) fuel0 (-1) r8 0 g9 (by decide) (by rw [ti0]; omega) (by rw [ti0]; rfl) (by rw [ti0]; exact x1) ((x3.v C.2.2.2.1).trans b.v)
  have mm : ∀ (x : Int32), x = (if v2.toInt = 0 then (fOut (chS (yOf 43 hC) (hC 43 0) (stOf 43 hC) v1.toInt.toNat) (yN (yOf 43 hC)) (yN (yOf 43 hC)) (-1, frN (yOf 43 hC) (hC 43 0) (stOf 43 hC) v1.toInt.toNat)).1 else (fOut (chS (yOf 43 hC) (hC 43 0) (stOf 43 hC) v1.toInt.toNat) (yN (yOf 43 hC)) (yN (yOf 43 hC)) (-1, frN (yOf 43 hC) (hC 43 0) (stOf 43 hC) v1.toInt.toNat)).2) → Al (f_X7_change v1 v2 hM) (fun o2 => x = o2.1 ∧ RR g o2.2) := by
    intro x hx
    refine al_in (fun r qr => al_ite (fun z => by omega) (fun z => al_in (fun r2 q2 => al_ite (fun z => by omega) (fun z => al_oI (fun r7 m8 h8 => ?_)))))
    obtain ⟨y1, y2⟩ := friendsBehind_ok hv (by omega) M q.2.2.2.2.2 (r7, m8) h8
    simp only at y1 y2
    refine mchange_37 hv (by omega) M q.2.2.2.2.2 (s0 := (-1, frN (yOf 43 hC) (hC 43 0) (stOf 43 hC) v1.toInt.toNat)) (fun gm F => ?_) fuel0 (-1) r7 0 m8 (by decide) (by rw [ti0]; omega) (by rw [ti0]; rfl) (by rw [ti0]; exact y1) y2
    have kk := q.keep V F
    refine al_ite (fun z => al_some ⟨?_, kk⟩) (fun z => al_some ⟨?_, kk⟩)
    · rw [hx, if_pos z]
    · rw [hx, if_neg z]
  exact al_ite (fun z => al_some (mm _ (if_pos z).symm)) (fun z => al_some (mm _ (if_neg z).symm))
end
