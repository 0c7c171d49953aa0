section
/-! feasts and years: the reference -/
noncomputable section
theorem within99 {v : Int32} : Al (f_X7_within v 0 99) (fun r => r = w99 v) := by
  unfold f_X7_within w99
  rw [ti0, show (99 : Int32).toInt = 99 by decide]
  exact al_ite (fun c => al_some (by rw [if_pos c])) (fun c => al_ite (fun d => al_some (by rw [if_neg c, if_pos d])) (fun d => al_some (by rw [if_neg c, if_neg d])))
/-- all but its names, its reading, strengths, YEAR -/
def gFr (g h : dH) : Prop := ∀ a k, ¬ (a = 0 ∧ 14 ≤ k ∧ k ≤ 28) → ¬ (a = 0 ∧ k = 7) → ¬ a = 7 → g a k = h a k
theorem gFr.refl (h : dH) : gFr h h := fun _ _ _ _ _ => rfl
theorem gFr.trans {f g h : dH} (q : gFr f g) (r : gFr g h) : gFr f h := fun a k x y z => (q a k x y z).trans (r a k x y z)
theorem mFr.g {g h : dH} (q : mFr g h) : gFr g h := fun a k x _ _ => q a k x
theorem binds_ok {h : dH} {Y : zY} {y : Int32} {st : zT2} (H : SM Y y st h) {v1 v2 v3 : Int32} {i j : Nat} (h1 : v1.toInt = i) (h2 : v2.toInt = j) (hi : i < yN Y) (hj : j < yN Y) : Al (f_X7_binds v1 v2 v3 h) (fun g => SM Y y (tieS st i j (w99 v3)) g ∧ gFr g h) := by
  obtain ⟨h0, h1', h2', h3, h4, h5, h6⟩ := H
  unfold f_X7_binds
  obtain ⟨-, e1⟩ := ix8 h1 h2 (by omega) (by omega)
  obtain ⟨-, e2⟩ := ix8 h2 h1 (by omega) (by omega)
  rw [e1, e2]
  refine al_oP (fun r1 hr => al_ite (fun _ => al_oH' (fun g2 q2 => al_ite (fun _ => al_oH' (fun g q4 => al_some ?_)) (fun _ => al_none))) (fun _ => al_none))
  have er := within99 r1 hr
  subst er
  have e : ∀ b k, ¬ b = 7 → g b k = h b k := fun b k hb => by rw [q4, dU_ne (by omega), q2, dU_ne (by omega)]
  refine ⟨⟨by rw [e 0 7 (by omega)]; exact h0, by rw [e 0 8 (by omega)]; exact h1', by rw [e 0 13 (by omega)]; exact h2', h3, fun p hp => ?_, fun p q hp hq => ?_, h6.same (fun k => e 1 k (by omega)) (fun k => e 2 k (by omega)) (e 0 4 (by omega))⟩, fun a k _ _ x => e a k x⟩
  · rw [e 4 p (by omega), e 5 p (by omega), e 6 p (by omega)]; exact h4 p hp
  · unfold tieS
    rw [q4, q2]
    by_cases c : p = j ∧ q = i
    · rw [if_pos (Or.inr c), c.1, c.2, dU_eq]
    · rw [dU_ne (by omega)]
      by_cases d : p = i ∧ q = j
      · rw [if_pos (Or.inl d), d.1, d.2, dU_eq]
      · rw [dU_ne (by omega), if_neg (by omega)]
        exact h5 p q hp hq
theorem SM.lt {Y : zY} {y : Int32} {st : zT2} {h : dH} (H : SM Y y st h) {v : Int32} : v.toInt < (h 0 13).toInt ↔ v.toInt < yN Y := by
  rw [H.2.2.1]
theorem feasts_14 {Y : zY} {y : Int32} {st : zT2} {k : dH → Option dH} {P : dH → Prop} {v1 : Int32} {i : Nat} (h1 : v1.toInt = i) (hi : i < yN Y) : ∀ (n : Nat) (v2 : Int32) (h : dH), i < v2.toInt → v2.toInt ≤ yN Y → SM Y y (fIn (fsStep Y y) i v2.toInt.toNat st) h → (∀ g, SM Y y (fIn (fsStep Y y) i (yN Y) st) g → gFr g h → Al (k g) P) → Al (l_X7_feasts_14 v1 k n v2 h) P
  | 0, _, _, _, _, _, _ => al_none
  | n + 1, v2, h, p0, p1, H, K => by
    rw [l_X7_feasts_14]
    obtain ⟨H0, H1, H2, H3, H4, H5, -⟩ := id H
    have e1 : v1.toInt.toNat = i := by omega
    have t2 := inc1 (v := v2) (by omega)
    obtain ⟨j, hj⟩ : ∃ j, v2.toInt.toNat = j := ⟨_, rfl⟩
    have en : (v2 + 1).toInt.toNat = j + 1 := by omega
    rw [hj] at H H5
    rw [e1, hj, H2]
    have nx : v2.toInt < yN Y → ∀ g, SM Y y (fsStep Y y i j (fIn (fsStep Y y) i j st)) g → gFr g h → Al (l_X7_feasts_14 v1 k n (v2 + 1) g) P := by
      intro hlt g Hg hg
      have ei : fIn (fsStep Y y) i (v2 + 1).toInt.toNat st = fsStep Y y i j (fIn (fsStep Y y) i j st) := by rw [en, fIn, if_pos (by omega)]
      exact feasts_14 h1 hi n (v2 + 1) g (by omega) (by omega) (by rw [ei]; exact Hg) (fun g' x1 x3 => K g' x1 (x3.trans hg))
    refine al_ite (fun c => al_ite (fun _ => ?_) (fun _ => al_none)) (fun c => ?_)
    · rw [(H4 i hi).2.2, (H4 j (by omega)).2.2]
      refine al_ite (fun d => nx (by omega) h (by unfold fsStep; rw [if_pos d]; exact H) (gFr.refl _)) (fun d => al_ite (fun _ => al_ite (fun _ => al_ite (fun d2 => al_oI (fun r12 g13 q13 => al_oI (fun r14 g15 q15 => al_oP (fun r16 hr16 => al_oV' (fun g18 q18 => ?_))))) (fun d2 => nx (by omega) h (by unfold fsStep; rw [if_neg d, if_neg d2]; exact H) (gFr.refl _))) (fun _ => al_none)) (fun _ => al_none))
      have hjN : j < yN Y := by omega
      have h2j : v2.toInt = j := by omega
      obtain ⟨m1, m2⟩ := meetsOf_ok H h1 h2j hi hjN (r12, g13) q13
      simp only at m1 m2
      obtain ⟨m3, m4⟩ := meetsOf_ok (H.n m2) h2j h1 hjN hi (r14, g15) q15
      simp only at m3 m4
      have m5 := m4.trans m2
      have es := strengthOf_ok h1 h2j (by omega) (by omega) r16 hr16
      rw [m5 _ _ (by omega), H5 i j hi hjN] at es
      obtain ⟨x1, x2⟩ := binds_ok (H.n m5) h1 h2j hi hjN g18 q18
      refine nx (by omega) g18 ?_ (x2.trans m5.g)
      unfold fsStep
      rw [if_neg d, if_pos d2]
      rw [es, m1, m3] at x1
      exact x1
    · have ej : j = yN Y := by omega
      rw [ej] at H
      exact K h H (gFr.refl _)
theorem feasts_2 {Y : zY} {y : Int32} {st : zT2} {k : dH → Option dH} {P : dH → Prop} : ∀ (n : Nat) (v1 : Int32) (h : dH), 0 ≤ v1.toInt → v1.toInt ≤ yN Y → SM Y y (fOut (fsStep Y y) (yN Y) v1.toInt.toNat st) h → (∀ g, SM Y y (feastS Y y st) g → gFr g h → Al (k g) P) → Al (l_X7_feasts_2 k n v1 h) P
  | 0, _, _, _, _, _, _ => al_none
  | n + 1, v1, h, p0, p1, H, K => by
    rw [l_X7_feasts_2]
    have hN := H.2.2.2.1
    have t1 := inc1 (v := v1) (by omega)
    refine al_ite (fun c => ?_) (fun c => ?_)
    · have c' := H.lt.mp c
      have e2 : (v1 + 1).toInt.toNat = v1.toInt.toNat + 1 := by omega
      have el : fIn (fsStep Y y) v1.toInt.toNat (v1 + 1).toInt.toNat (fOut (fsStep Y y) (yN Y) v1.toInt.toNat st) = fOut (fsStep Y y) (yN Y) v1.toInt.toNat st := fIn_le _ (by omega)
      have eo : fIn (fsStep Y y) v1.toInt.toNat (yN Y) (fOut (fsStep Y y) (yN Y) v1.toInt.toNat st) = fOut (fsStep Y y) (yN Y) (v1 + 1).toInt.toNat st := by rw [e2]; rfl
      refine feasts_14 (Y := Y) (i := v1.toInt.toNat) (by omega) (by omega) _ (v1 + 1) h (by omega) (by omega) (by rw [el]; exact H) (fun g x1 x3 => ?_)
      rw [eo] at x1
      exact feasts_2 n (v1 + 1) g (by omega) (by omega) x1 (fun g' z1 z3 => K g' z1 (z3.trans x3))
    · have c' : ¬ v1.toInt < yN Y := fun z => c (H.lt.mpr z)
      have ej : v1.toInt.toNat = yN Y := by omega
      rw [ej] at H
      exact K h H (gFr.refl _)
theorem feasts_ok {Y : zY} {y : Int32} {st : zT2} {h : dH} (H : SM Y y st h) : Al (f_X7_feasts h) (fun g => SM Y y (feastS Y y st) g ∧ gFr g h) :=
  feasts_2 _ 0 h (by decide) (by rw [ti0]; omega) H (fun g x1 x3 => al_some ⟨x1, x3⟩)
theorem fades_14 {Y : zY} {y : Int32} {st : zT2} {k : dH → Option dH} {P : dH → Prop} {v1 : Int32} {i : Nat} (h1 : v1.toInt = i) (hi : i < yN Y) : ∀ (n : Nat) (v2 : Int32) (h : dH), i < v2.toInt → v2.toInt ≤ yN Y → SM Y y (fIn (yrStep Y y) i v2.toInt.toNat st) h → (∀ g, SM Y y (fIn (yrStep Y y) i (yN Y) st) g → gFr g h → Al (k g) P) → Al (l_X7_fades_14 v1 k n v2 h) P
  | 0, _, _, _, _, _, _ => al_none
  | n + 1, v2, h, p0, p1, H, K => by
    rw [l_X7_fades_14]
    obtain ⟨H0, H1, H2, H3, H4, H5, -⟩ := id H
    have e1 : v1.toInt.toNat = i := by omega
    have t2 := inc1 (v := v2) (by omega)
    obtain ⟨j, hj⟩ : ∃ j, v2.toInt.toNat = j := ⟨_, rfl⟩
    have en : (v2 + 1).toInt.toNat = j + 1 := by omega
    rw [hj] at H H5
    rw [H2]
    refine al_ite (fun c => al_oI (fun r12 g13 q13 => al_oI (fun r14 g15 q15 => al_oP (fun r16 hr16 => al_oV' (fun g18 q18 => ?_))))) (fun c => ?_)
    · have hjN : j < yN Y := by omega
      have h2j : v2.toInt = j := by omega
      obtain ⟨m1, m2⟩ := fadesOf_ok H h1 h2j hi hjN (r12, g13) q13
      simp only at m1 m2
      obtain ⟨m3, m4⟩ := fadesOf_ok (H.n m2) h2j h1 hjN hi (r14, g15) q15
      simp only at m3 m4
      have m5 := m4.trans m2
      have es := strengthOf_ok h1 h2j (by omega) (by omega) r16 hr16
      rw [m5 _ _ (by omega), H5 i j hi hjN] at es
      obtain ⟨x1, x2⟩ := binds_ok (H.n m5) h1 h2j hi hjN g18 q18
      rw [es, m1, m3] at x1
      have ei : fIn (yrStep Y y) i (v2 + 1).toInt.toNat st = yrStep Y y i j (fIn (yrStep Y y) i j st) := by rw [en, fIn, if_pos (by omega)]
      refine fades_14 h1 hi n (v2 + 1) g18 (by omega) (by omega) (by rw [ei]; exact x1) (fun g' z1 z3 => K g' z1 (z3.trans (x2.trans m5.g)))
    · have ej : j = yN Y := by omega
      rw [ej] at H
      exact K h H (gFr.refl _)
theorem fades_2 {Y : zY} {y : Int32} {st : zT2} {k : dH → Option dH} {P : dH → Prop} : ∀ (n : Nat) (v1 : Int32) (h : dH), 0 ≤ v1.toInt → v1.toInt ≤ yN Y → SM Y y (fOut (yrStep Y y) (yN Y) v1.toInt.toNat st) h → (∀ g, SM Y y (fadeS Y y st) g → gFr g h → Al (k g) P) → Al (l_X7_fades_2 k n v1 h) P
  | 0, _, _, _, _, _, _ => al_none
  | n + 1, v1, h, p0, p1, H, K => by
    rw [l_X7_fades_2]
    have hN := H.2.2.2.1
    have t1 := inc1 (v := v1) (by omega)
    refine al_ite (fun c => ?_) (fun c => ?_)
    · have c' := H.lt.mp c
      have e2 : (v1 + 1).toInt.toNat = v1.toInt.toNat + 1 := by omega
      have el : fIn (yrStep Y y) v1.toInt.toNat (v1 + 1).toInt.toNat (fOut (yrStep Y y) (yN Y) v1.toInt.toNat st) = fOut (yrStep Y y) (yN Y) v1.toInt.toNat st := fIn_le _ (by omega)
      have eo : fIn (yrStep Y y) v1.toInt.toNat (yN Y) (fOut (yrStep Y y) (yN Y) v1.toInt.toNat st) = fOut (yrStep Y y) (yN Y) (v1 + 1).toInt.toNat st := by rw [e2]; rfl
      refine fades_14 (Y := Y) (i := v1.toInt.toNat) (by omega) (by omega) _ (v1 + 1) h (by omega) (by omega) (by rw [el]; exact H) (fun g x1 x3 => ?_)
      rw [eo] at x1
      exact fades_2 n (v1 + 1) g (by omega) (by omega) x1 (fun g' z1 z3 => K g' z1 (z3.trans x3))
    · have c' : ¬ v1.toInt < yN Y := fun z => c (H.lt.mpr z)
      have ej : v1.toInt.toNat = yN Y := by omega
      rw [ej] at H
      exact K h H (gFr.refl _)
theorem SM.year {Y : zY} {y x : Int32} {st : zT2} {h : dH} (H : SM Y y st h) : SM Y x st (dU h 0 7 x) := by
  obtain ⟨h0, h1, h2, h3, h4, h5, h6⟩ := H
  have e : ∀ b k, ¬ (b = 0 ∧ k = 7) → dU h 0 7 x b k = h b k := fun b k q => dU_ne q
  refine ⟨dU_eq, by rw [e 0 8 (by omega)]; exact h1, by rw [e 0 13 (by omega)]; exact h2, h3, fun i hi => ?_, fun i j hi hj => ?_, h6.same (fun k => e 1 k (by omega)) (fun k => e 2 k (by omega)) (e 0 4 (by omega))⟩
  · rw [e 4 i (by omega), e 5 i (by omega), e 6 i (by omega)]; exact h4 i hi
  · rw [e 7 _ (by omega)]; exact h5 i j hi hj
theorem fades_ok {Y : zY} {y : Int32} {st : zT2} {h : dH} (H : SM Y y st h) : Al (f_X7_fades h) (fun g => SM Y (y + 1) (fadeS Y y st) g ∧ gFr g h) := by
  refine fades_2 _ 0 h (by decide) (by rw [ti0]; omega) H (fun g x1 x3 => al_oH' (fun g2 q2 => al_some ?_))
  have e0 : g 0 7 = y := x1.1
  rw [e0] at q2
  refine ⟨by rw [q2]; exact x1.year, fun b k n1 n2 n3 => ?_⟩
  rw [q2, dU_ne n2]
  exact x3 b k n1 n2 n3
/-! years in thought -/
def liveS (Y : zY) (y : Int32) (st : zT2) : Nat → Int32 × zT2
  | 0 => (y, st)
  | n + 1 => ((liveS Y y st n).1 + 1, fadeS Y (liveS Y y st n).1 (feastS Y (liveS Y y st n).1 (liveS Y y st n).2))
theorem Wf.live {Y : zY} {y : Int32} {st : zT2} (W : Wf (yN Y) st) : ∀ n, Wf (yN Y) (liveS Y y st n).2
  | 0 => W
  | n + 1 => (Wf.live W n).feast.fade
theorem lives_2 {Y : zY} {y : Int32} {st : zT2} {k : dH → Option dH} {P : dH → Prop} {v1 : Int32} {m : Nat} (hv : v1.toInt = m) (hm : m < 1000) : ∀ (n : Nat) (v2 : Int32) (h : dH), 0 ≤ v2.toInt → v2.toInt ≤ m → SM Y (liveS Y y st v2.toInt.toNat).1 (liveS Y y st v2.toInt.toNat).2 h → (∀ g, SM Y (liveS Y y st m).1 (liveS Y y st m).2 g → gFr g h → Al (k g) P) → Al (l_X7_lives_2 v1 k n v2 h) P
  | 0, _, _, _, _, _, _ => al_none
  | n + 1, v2, h, p0, p1, H, K => by
    rw [l_X7_lives_2]
    have t1 := inc1 (v := v2) (by omega)
    refine al_ite (fun c => al_oV' (fun g3 q3 => al_oV' (fun g4 q4 => ?_))) (fun c => ?_)
    · obtain ⟨x1, x2⟩ := feasts_ok H g3 q3
      obtain ⟨x3, x4⟩ := fades_ok x1 g4 q4
      have e2 : (v2 + 1).toInt.toNat = v2.toInt.toNat + 1 := by omega
      exact lives_2 hv hm n (v2 + 1) g4 (by omega) (by omega) (by rw [e2]; exact x3) (fun g' z1 z2 => K g' z1 (z2.trans (x4.trans x2)))
    · have e : v2.toInt.toNat = m := by omega
      rw [e] at H
      exact K h H (gFr.refl _)
theorem lives_ok {Y : zY} {y : Int32} {st : zT2} {v1 : Int32} {m : Nat} (hv : v1.toInt = m) (hm : m < 1000) {h : dH} (H : SM Y y st h) : Al (f_X7_lives v1 h) (fun g => SM Y (liveS Y y st m).1 (liveS Y y st m).2 g ∧ gFr g h) :=
  lives_2 hv hm _ 0 h (by decide) (by rw [ti0]; omega) H (fun g x1 x2 => al_some ⟨x1, x2⟩)
end
end

section
/-! who knows whom, counts: both -/
noncomputable section
def knS (Y : zY) (st : zT2) (i j : Nat) : Bool := if i = j then false else if (st i j).toInt < (yL Y).toInt then false else true
/-- .. with two who know each other besides, and one who is gone -/
def knM (Y : zY) (st : zT2) (ea eb gn : Int) (i j : Nat) : Bool := if i = j then false else if (i : Int) = gn then false else if (j : Int) = gn then false else if (st i j).toInt < (yL Y).toInt then decide (((i : Int) = ea ∧ (j : Int) = eb) ∨ ((i : Int) = eb ∧ (j : Int) = ea)) else true
theorem knM_none {Y : zY} {st : zT2} {i j : Nat} : knM Y st (-1) (-1) (-1) i j = knS Y st i j := by
  unfold knM knS
  by_cases c : i = j
  · rw [if_pos c, if_pos c]
  · rw [if_neg c, if_neg c, if_neg (by omega), if_neg (by omega)]
    by_cases d : (st i j).toInt < (yL Y).toInt
    · rw [if_pos d, if_pos d]
      exact decide_eq_false (by omega)
    · rw [if_neg d, if_neg d]
def isB (r : Int32) (b : Bool) : Prop := (r.toInt = 1 ∧ b = true) ∨ (r.toInt = 0 ∧ b = false)
def KnC (K : Nat → Nat → Bool) (N a : Nat) (h : dH) : Prop := ∀ (v1 v2 : Int32) (i j : Nat), v1.toInt = i → v2.toInt = j → i < N → j < N → Al (f_X3_knows a v1 v2 h) (fun r => isB r (K i j))
def KnM (K : Nat → Nat → Bool) (N : Nat) (h : dH) : Prop := ∀ (v1 v2 : Int32) (i j : Nat), v1.toInt = i → v2.toInt = j → i < N → j < N → Al (f_X7_knows v1 v2 h) (fun r => isB r (K i j))
theorem isB.t {r : Int32} (h : r.toInt = 1) : isB r true := Or.inl ⟨h, rfl⟩
theorem isB.f {r : Int32} (h : r.toInt = 0) : isB r false := Or.inr ⟨h, rfl⟩
theorem isB.no {r : Int32} {b : Bool} (q : isB r b) (z : r.toInt = 0) : ¬ b = true := by
  rcases q with q | q
  · omega
  · rw [q.2]; decide
theorem isB.yes {r : Int32} {b : Bool} (q : isB r b) (z : ¬ r.toInt = 0) : b = true := by
  rcases q with q | q
  · exact q.2
  · exact absurd q.1 z
theorem SC.kn {a : Nat} {Y : zY} {y : Int32} {st : zT2} {h : dH} (H : SC a Y y st h) : KnC (knS Y st) (yN Y) a h := by
  intro v1 v2 i j h1 h2 hi hj
  obtain ⟨H0, H1, H2, H3, H4, H5, -⟩ := id H
  have e1 : v1.toInt.toNat = i := by omega
  have e2 : v2.toInt.toNat = j := by omega
  unfold f_X3_knows knS
  rw [e1, e2, H1, H5 i j hi hj]
  refine al_ite (fun c => al_some ?_) (fun c => al_ite (fun _ => al_ite (fun _ => al_ite (fun d => al_some ?_) (fun d => al_some ?_)) (fun _ => al_none)) (fun _ => al_none))
  · rw [if_pos (by omega)]; exact isB.f ti0
  · rw [if_neg (by omega), if_pos d]; exact isB.f ti0
  · rw [if_neg (by omega), if_neg d]; exact isB.t ti1
theorem kM_self {Y : zY} {st : zT2} {ea eb gn : Int} {i j : Nat} (h : i = j) : knM Y st ea eb gn i j = false := if_pos h
theorem kM_gi {Y : zY} {st : zT2} {ea eb gn : Int} {i j : Nat} (h : ¬ i = j) (h2 : (i : Int) = gn) : knM Y st ea eb gn i j = false := (if_neg h).trans (if_pos h2)
theorem kM_gj {Y : zY} {st : zT2} {ea eb gn : Int} {i j : Nat} (h : ¬ i = j) (h2 : ¬ (i : Int) = gn) (h3 : (j : Int) = gn) : knM Y st ea eb gn i j = false := (if_neg h).trans ((if_neg h2).trans (if_pos h3))
theorem kM_lt {Y : zY} {st : zT2} {ea eb gn : Int} {i j : Nat} (h : ¬ i = j) (h2 : ¬ (i : Int) = gn) (h3 : ¬ (j : Int) = gn) (h4 : (st i j).toInt < (yL Y).toInt) : knM Y st ea eb gn i j = decide (((i : Int) = ea ∧ (j : Int) = eb) ∨ ((i : Int) = eb ∧ (j : Int) = ea)) := (if_neg h).trans ((if_neg h2).trans ((if_neg h3).trans (if_pos h4)))
theorem kM_ge {Y : zY} {st : zT2} {ea eb gn : Int} {i j : Nat} (h : ¬ i = j) (h2 : ¬ (i : Int) = gn) (h3 : ¬ (j : Int) = gn) (h4 : ¬ (st i j).toInt < (yL Y).toInt) : knM Y st ea eb gn i j = true := (if_neg h).trans ((if_neg h2).trans ((if_neg h3).trans (if_neg h4)))
theorem SM.knm {Y : zY} {y : Int32} {st : zT2} {h : dH} (H : SM Y y st h) {ea eb gn : Int} (h29 : (h 0 29).toInt = ea) (h30 : (h 0 30).toInt = eb) (h31 : (h 0 31).toInt = gn) : KnM (knM Y st ea eb gn) (yN Y) h := by
  intro v1 v2 i j h1 h2 hi hj
  obtain ⟨H0, H1, H2, H3, H4, H5, -⟩ := id H
  unfold f_X7_knows
  rw [h29, h30, h31, H1, h1, h2]
  refine al_ite (fun c => al_some ?_) (fun c => al_ite (fun c2 => al_some ?_) (fun c2 => al_ite (fun c3 => al_some ?_) (fun c3 => al_oP (fun r hr => ?_))))
  · rw [kM_self (by omega)]; exact isB.f ti0
  · rw [kM_gi (by omega) c2]; exact isB.f ti0
  · rw [kM_gj (by omega) c2 c3]; exact isB.f ti0
  · have er := strengthOf_ok h1 h2 (by omega) (by omega) r hr
    rw [H5 i j hi hj] at er
    subst er
    refine al_ite (fun d => ?_) (fun d => al_some ?_)
    · rw [kM_lt (by omega) c2 c3 d]
      have yes : ((i : Int) = ea ∧ (j : Int) = eb) ∨ ((i : Int) = eb ∧ (j : Int) = ea) → Al (some (1 : Int32)) (fun r => isB r (decide (((i : Int) = ea ∧ (j : Int) = eb) ∨ ((i : Int) = eb ∧ (j : Int) = ea)))) := fun z => al_some (by rw [decide_eq_true z]; exact isB.t ti1)
      have no : ¬ (((i : Int) = ea ∧ (j : Int) = eb) ∨ ((i : Int) = eb ∧ (j : Int) = ea)) → Al (some (0 : Int32)) (fun r => isB r (decide (((i : Int) = ea ∧ (j : Int) = eb) ∨ ((i : Int) = eb ∧ (j : Int) = ea)))) := fun z => al_some (by rw [decide_eq_false z]; exact isB.f ti0)
      exact al_ite (fun q1 => al_ite (fun q2 => yes (Or.inl ⟨q1, q2⟩)) (fun q2 => al_ite (fun q3 => al_ite (fun q4 => yes (Or.inr ⟨q3, q4⟩)) (fun q4 => no (by omega))) (fun q3 => no (by omega)))) (fun q1 => al_ite (fun q3 => al_ite (fun q4 => yes (Or.inr ⟨q3, q4⟩)) (fun q4 => no (by omega))) (fun q3 => no (by omega)))
    · rw [kM_ge (by omega) c2 c3 d]; exact isB.t ti1
theorem KnM.congr {K L : Nat → Nat → Bool} {N : Nat} {h : dH} (q : KnM K N h) (e : ∀ i j, i < N → j < N → K i j = L i j) : KnM L N h := by
  intro v1 v2 i j h1 h2 hi hj
  rw [← e i j hi hj]
  exact q v1 v2 i j h1 h2 hi hj
/-- two in thought, and one gone: none of them -/
def mNo (h : dH) : Prop := (h 0 29).toInt = -1 ∧ (h 0 30).toInt = -1 ∧ (h 0 31).toInt = -1
theorem SM.kn {Y : zY} {y : Int32} {st : zT2} {h : dH} (H : SM Y y st h) (n : mNo h) : KnM (knS Y st) (yN Y) h := (H.knm n.1 n.2.1 n.2.2).congr (fun _ _ _ _ => knM_none)
/-! FRIENDS -/
def frS (K : Nat → Nat → Bool) (N : Nat) : Int32 := fOut (fun i j s => if K i j = true then s + 1 else s) N N 0
section FR
variable {K : Nat → Nat → Bool} {N a : Nat} {h : dH} {P : Int32 → Prop} {k : Int32 → Option Int32}
theorem friends_16 (hK : KnC K N a h) (hN : (h a 2).toInt = N) (hN8 : N ≤ 8) {v2 : Int32} {i : Nat} (h2 : v2.toInt = i) (hi : i < N) {s0 : Int32} (Kk : Al (k (fIn (fun i j s => if K i j = true then s + 1 else s) i N s0)) P) : ∀ (n : Nat) (v1 v3 : Int32), i < v3.toInt → v3.toInt ≤ N → v1 = fIn (fun i j s => if K i j = true then s + 1 else s) i v3.toInt.toNat s0 → Al (l_X3_friends_16 a v2 h k n v1 v3) P
  | 0, _, _, _, _, _ => al_none
  | n + 1, v1, v3, p0, p1, e => by
    rw [l_X3_friends_16, hN]
    have t3 := inc1 (v := v3) (by omega)
    have en : (v3 + 1).toInt.toNat = v3.toInt.toNat + 1 := by omega
    refine al_ite (fun c => al_oP (fun r hr => ?_)) (fun c => ?_)
    · have q := hK v2 v3 i v3.toInt.toNat h2 (by omega) hi (by omega) r hr
      refine al_ite (fun z => friends_16 hK hN hN8 h2 hi Kk n _ _ (by omega) (by omega) ?_) (fun z => friends_16 hK hN hN8 h2 hi Kk n _ _ (by omega) (by omega) ?_)
      · rw [en, fIn, if_pos (by omega), if_neg (q.no z), e]
      · rw [en, fIn, if_pos (by omega), if_pos (q.yes z), e]
    · rw [e, show v3.toInt.toNat = N by omega]; exact Kk
theorem friends_4 (hK : KnC K N a h) (hN : (h a 2).toInt = N) (hN8 : N ≤ 8) (Kk : Al (k (frS K N)) P) : ∀ (n : Nat) (v1 v2 : Int32), 0 ≤ v2.toInt → v2.toInt ≤ N → v1 = fOut (fun i j s => if K i j = true then s + 1 else s) N v2.toInt.toNat 0 → Al (l_X3_friends_4 a h k n v1 v2) P
  | 0, _, _, _, _, _ => al_none
  | n + 1, v1, v2, p0, p1, e => by
    rw [l_X3_friends_4, hN]
    have t3 := inc1 (v := v2) (by omega)
    have en : (v2 + 1).toInt.toNat = v2.toInt.toNat + 1 := by omega
    refine al_ite (fun c => friends_16 (s0 := v1) hK hN hN8 (i := v2.toInt.toNat) (by omega) (by omega) ?_ _ v1 (v2 + 1) (by omega) (by omega) ?_) (fun c => ?_)
    · exact friends_4 hK hN hN8 Kk n _ (v2 + 1) (by omega) (by omega) (by rw [en, fOut, e])
    · rw [fIn_le _ (by omega)]
    · rw [e, show v2.toInt.toNat = N by omega]; exact Kk
theorem friends_ok (hK : KnC K N a h) (hN : (h a 2).toInt = N) (hN8 : N ≤ 8) : Al (f_X3_friends a h) (fun r => r = frS K N) := friends_4 (P := fun r => r = frS K N) hK hN hN8 (al_some rfl) _ 0 0 (by decide) (by rw [ti0]; omega) rfl
theorem mfriends_16 (hK : KnM K N h) (hN : (h 0 13).toInt = N) (hN8 : N ≤ 8) {v2 : Int32} {i : Nat} (h2 : v2.toInt = i) (hi : i < N) {s0 : Int32} (Kk : Al (k (fIn (fun i j s => if K i j = true then s + 1 else s) i N s0)) P) : ∀ (n : Nat) (v1 v3 : Int32), i < v3.toInt → v3.toInt ≤ N → v1 = fIn (fun i j s => if K i j = true then s + 1 else s) i v3.toInt.toNat s0 → Al (l_X7_friends_16 v2 h k n v1 v3) P
  | 0, _, _, _, _, _ => al_none
  | n + 1, v1, v3, p0, p1, e => by
    rw [l_X7_friends_16, hN]
    have t3 := inc1 (v := v3) (by omega)
    have en : (v3 + 1).toInt.toNat = v3.toInt.toNat + 1 := by omega
    refine al_ite (fun c => al_oP (fun r hr => ?_)) (fun c => ?_)
    · have q := hK v2 v3 i v3.toInt.toNat h2 (by omega) hi (by omega) r hr
      refine al_ite (fun z => mfriends_16 hK hN hN8 h2 hi Kk n _ _ (by omega) (by omega) ?_) (fun z => mfriends_16 hK hN hN8 h2 hi Kk n _ _ (by omega) (by omega) ?_)
      · rw [Int32.add_zero, en, fIn, if_pos (by omega), if_neg (q.no z), e]
      · rw [en, fIn, if_pos (by omega), if_pos (q.yes z), e]
    · rw [e, show v3.toInt.toNat = N by omega]; exact Kk
theorem mfriends_4 (hK : KnM K N h) (hN : (h 0 13).toInt = N) (hN8 : N ≤ 8) (Kk : Al (k (frS K N)) P) : ∀ (n : Nat) (v1 v2 : Int32), 0 ≤ v2.toInt → v2.toInt ≤ N → v1 = fOut (fun i j s => if K i j = true then s + 1 else s) N v2.toInt.toNat 0 → Al (l_X7_friends_4 h k n v1 v2) P
  | 0, _, _, _, _, _ => al_none
  | n + 1, v1, v2, p0, p1, e => by
    rw [l_X7_friends_4, hN]
    have t3 := inc1 (v := v2) (by omega)
    have en : (v2 + 1).toInt.toNat = v2.toInt.toNat + 1 := by omega
    refine al_ite (fun c => mfriends_16 (s0 := v1) hK hN hN8 (i := v2.toInt.toNat) (by omega) (by omega) ?_ _ v1 (v2 + 1) (by omega) (by omega) ?_) (fun c => ?_)
    · exact mfriends_4 hK hN hN8 Kk n _ (v2 + 1) (by omega) (by omega) (by rw [en, fOut, e])
    · rw [fIn_le _ (by omega)]
    · rw [e, show v2.toInt.toNat = N by omega]; exact Kk
theorem mfriends_ok (hK : KnM K N h) (hN : (h 0 13).toInt = N) (hN8 : N ≤ 8) : Al (f_X7_friends h) (fun r => r = frS K N) := mfriends_4 (P := fun r => r = frS K N) hK hN hN8 (al_some rfl) _ 0 0 (by decide) (by rw [ti0]; omega) rfl
/-! how many one knows -/
theorem acq_4 (hK : KnC K N a h) (hN : (h a 2).toInt = N) (hN8 : N ≤ 8) {v1 : Int32} {i : Nat} (h2 : v1.toInt = i) (hi : i < N) (Kk : Al (k (cnt32 (K i) N)) P) : ∀ (n : Nat) (v2 v3 : Int32), 0 ≤ v3.toInt → v3.toInt ≤ N → v2 = cnt32 (K i) v3.toInt.toNat → Al (l_X3_acquaintances_4 a v1 h k n v2 v3) P
  | 0, _, _, _, _, _ => al_none
  | n + 1, v2, v3, p0, p1, e => by
    rw [l_X3_acquaintances_4, hN]
    have t3 := inc1 (v := v3) (by omega)
    have en : (v3 + 1).toInt.toNat = v3.toInt.toNat + 1 := by omega
    refine al_ite (fun c => al_oP (fun r hr => ?_)) (fun c => ?_)
    · have q := hK v1 v3 i v3.toInt.toNat h2 (by omega) hi (by omega) r hr
      refine al_ite (fun z => acq_4 hK hN hN8 h2 hi Kk n _ _ (by omega) (by omega) ?_) (fun z => acq_4 hK hN hN8 h2 hi Kk n _ _ (by omega) (by omega) ?_)
      · rw [en, cnt32, if_neg (q.no z), e]
      · rw [en, cnt32, if_pos (q.yes z), e]
    · rw [e, show v3.toInt.toNat = N by omega]; exact Kk
theorem acq_ok (hK : KnC K N a h) (hN : (h a 2).toInt = N) (hN8 : N ≤ 8) {v1 : Int32} {i : Nat} (h2 : v1.toInt = i) (hi : i < N) : Al (f_X3_acquaintances a v1 h) (fun r => r = cnt32 (K i) N) := acq_4 (P := fun r => r = cnt32 (K i) N) hK hN hN8 h2 hi (al_some rfl) _ 0 0 (by decide) (by rw [ti0]; omega) rfl
theorem macq (hK : KnM K N h) (hN : (h 0 13).toInt = N) (hN8 : N ≤ 8) {v1 : Int32} {i : Nat} (h2 : v1.toInt = i) (hi : i < N) {Q : Int32 × dH → Prop} {kk : Int32 → Option (Int32 × dH)} (Kk : Al (kk (cnt32 (K i) N)) Q) : ∀ (n : Nat) (v2 v3 : Int32), 0 ≤ v3.toInt → v3.toInt ≤ N → v2 = cnt32 (K i) v3.toInt.toNat → Al (l_X7_told_171 v1 h kk n v2 v3) Q
  | 0, _, _, _, _, _ => al_none
  | n + 1, v2, v3, p0, p1, e => by
    rw [l_X7_told_171, hN]
    have t3 := inc1 (v := v3) (by omega)
    have en : (v3 + 1).toInt.toNat = v3.toInt.toNat + 1 := by omega
    refine al_ite (fun c => al_oP (fun r hr => ?_)) (fun c => ?_)
    · have q := hK v1 v3 i v3.toInt.toNat h2 (by omega) hi (by omega) r hr
      refine al_ite (fun z => macq hK hN hN8 h2 hi Kk n _ _ (by omega) (by omega) ?_) (fun z => macq hK hN hN8 h2 hi Kk n _ _ (by omega) (by omega) ?_)
      · rw [Int32.add_zero, en, cnt32, if_neg (q.no z), e]
      · rw [en, cnt32, if_pos (q.yes z), e]
    · rw [e, show v3.toInt.toNat = N by omega]; exact Kk
end FR
/-! all strengths -/
def allS (st : zT2) (N : Nat) : Int32 := fOut (fun i j s => s + st i j) N N 0
section AL
variable {Y : zY} {y : Int32} {st : zT2} {a : Nat} {h : dH} {P : Int32 → Prop} {k : Int32 → Option Int32}
theorem allS_16 (H : SC a Y y st h) {v2 : Int32} {i : Nat} (h2 : v2.toInt = i) (hi : i < yN Y) {s0 : Int32} (Kk : Al (k (fIn (fun i j s => s + st i j) i (yN Y) s0)) P) : ∀ (n : Nat) (v1 v3 : Int32), i < v3.toInt → v3.toInt ≤ yN Y → v1 = fIn (fun i j s => s + st i j) i v3.toInt.toNat s0 → Al (l_X3_allStrength_16 a v2 h k n v1 v3) P
  | 0, _, _, _, _, _ => al_none
  | n + 1, v1, v3, p0, p1, e => by
    obtain ⟨H0, H1, H2, H3, H4, H5, -⟩ := id H
    rw [l_X3_allStrength_16, H2]
    have t3 := inc1 (v := v3) (by omega)
    have en : (v3 + 1).toInt.toNat = v3.toInt.toNat + 1 := by omega
    refine al_ite (fun c => al_ite (fun _ => al_ite (fun _ => allS_16 H h2 hi Kk n _ _ (by omega) (by omega) ?_) (fun _ => al_none)) (fun _ => al_none)) (fun c => ?_)
    · rw [en, fIn, if_pos (by omega), e, show v2.toInt.toNat = i by omega, H5 i _ hi (by omega)]
    · rw [e, show v3.toInt.toNat = yN Y by omega]; exact Kk
theorem allS_4 (H : SC a Y y st h) (Kk : Al (k (allS st (yN Y))) P) : ∀ (n : Nat) (v1 v2 : Int32), 0 ≤ v2.toInt → v2.toInt ≤ yN Y → v1 = fOut (fun i j s => s + st i j) (yN Y) v2.toInt.toNat 0 → Al (l_X3_allStrength_4 a h k n v1 v2) P
  | 0, _, _, _, _, _ => al_none
  | n + 1, v1, v2, p0, p1, e => by
    have H3 := H.2.2.2.1
    rw [l_X3_allStrength_4, H.2.2.1]
    have t3 := inc1 (v := v2) (by omega)
    have en : (v2 + 1).toInt.toNat = v2.toInt.toNat + 1 := by omega
    refine al_ite (fun c => allS_16 (s0 := v1) H (i := v2.toInt.toNat) (by omega) (by omega) ?_ _ v1 (v2 + 1) (by omega) (by omega) ?_) (fun c => ?_)
    · exact allS_4 H Kk n _ (v2 + 1) (by omega) (by omega) (by rw [en, fOut, e])
    · rw [fIn_le _ (by omega)]
    · rw [e, show v2.toInt.toNat = yN Y by omega]; exact Kk
theorem allS_ok (H : SC a Y y st h) : Al (f_X3_allStrength a h) (fun r => r = allS st (yN Y)) := allS_4 (P := fun r => r = allS st (yN Y)) H (al_some rfl) _ 0 0 (by decide) (by rw [ti0]; omega) rfl
theorem mallS_16 (H : SM Y y st h) {v2 : Int32} {i : Nat} (h2 : v2.toInt = i) (hi : i < yN Y) {s0 : Int32} (Kk : Al (k (fIn (fun i j s => s + st i j) i (yN Y) s0)) P) : ∀ (n : Nat) (v1 v3 : Int32), i < v3.toInt → v3.toInt ≤ yN Y → v1 = fIn (fun i j s => s + st i j) i v3.toInt.toNat s0 → Al (l_X7_strengthAll_16 v2 h k n v1 v3) P
  | 0, _, _, _, _, _ => al_none
  | n + 1, v1, v3, p0, p1, e => by
    obtain ⟨H0, H1, H2, H3, H4, H5, -⟩ := id H
    rw [l_X7_strengthAll_16, H2]
    have t3 := inc1 (v := v3) (by omega)
    have en : (v3 + 1).toInt.toNat = v3.toInt.toNat + 1 := by omega
    refine al_ite (fun c => al_oP (fun r hr => mallS_16 H h2 hi Kk n _ _ (by omega) (by omega) ?_)) (fun c => ?_)
    · have er := strengthOf_ok h2 (i := i) (j := v3.toInt.toNat) (by omega) (by omega) (by omega) r hr
      rw [en, fIn, if_pos (by omega), e, er, H5 i _ hi (by omega)]
    · rw [e, show v3.toInt.toNat = yN Y by omega]; exact Kk
theorem mallS_4 (H : SM Y y st h) (Kk : Al (k (allS st (yN Y))) P) : ∀ (n : Nat) (v1 v2 : Int32), 0 ≤ v2.toInt → v2.toInt ≤ yN Y → v1 = fOut (fun i j s => s + st i j) (yN Y) v2.toInt.toNat 0 → Al (l_X7_strengthAll_4 h k n v1 v2) P
  | 0, _, _, _, _, _ => al_none
  | n + 1, v1, v2, p0, p1, e => by
    have H3 := H.2.2.2.1
    rw [l_X7_strengthAll_4, H.2.2.1]
    have t3 := inc1 (v := v2) (by omega)
    have en : (v2 + 1).toInt.toNat = v2.toInt.toNat + 1 := by omega
    refine al_ite (fun c => mallS_16 (s0 := v1) H (i := v2.toInt.toNat) (by omega) (by omega) ?_ _ v1 (v2 + 1) (by omega) (by omega) ?_) (fun c => ?_)
    · exact mallS_4 H Kk n _ (v2 + 1) (by omega) (by omega) (by rw [en, fOut, e])
    · rw [fIn_le _ (by omega)]
    · rw [e, show v2.toInt.toNat = yN Y by omega]; exact Kk
theorem mallS_ok (H : SM Y y st h) : Al (f_X7_strengthAll h) (fun r => r = allS st (yN Y)) := mallS_4 (P := fun r => r = allS st (yN Y)) H (al_some rfl) _ 0 0 (by decide) (by rw [ti0]; omega) rfl
end AL
end
end

section
/-! years in thought, laid aside and back; quiet tables; seats -/
noncomputable section
theorem SC.keep {a : Nat} (ha : zS a) {Y : zY} {y : Int32} {st : zT2} {g h : dH} (H : SC a Y y st h) (e : ∀ b k, (a ≤ b ∧ b ≤ a + 12) ∨ (11 ≤ b ∧ b ≤ 32 ∧ (b % 4 = 3 ∨ b % 4 = 0)) → g b k = h b k) : SC a Y y st g := by
  have z := zS_or ha
  obtain ⟨h0, h1, h2, h3, h4, h5, h6, h7, h8⟩ := H
  have t := dtx_or (h a 3)
  have e3 : g a 3 = h a 3 := e a 3 (by omega)
  obtain ⟨c1, c2, c3⟩ := tEv_congr (f := g) (g := h) (ta := dtx (h a 3)) (fun k => e _ k (by omega)) (fun k => e _ k (by omega))
  refine ⟨by rw [e a 0 (by omega)]; exact h0, by rw [e a 1 (by omega)]; exact h1, by rw [e a 2 (by omega)]; exact h2, h3, fun i hi => ?_, fun i j hi hj => ?_, ?_, ?_, ?_⟩
  · rw [e (a + 1) i (by omega), e (a + 2) i (by omega), e (a + 3) i (by omega)]; exact h4 i hi
  · rw [e (a + 5 + i) j (by omega)]; exact h5 i j hi hj
  · rw [e3]; exact c1.mpr h6
  · rw [e3]; exact fun nm pt hp => by rw [c2]; exact h7 nm pt hp
  · rw [e3]; exact fun pt nm hp => by rw [c3]; exact h8 pt nm hp
/-- a street that became as another one -/
def becQ (a c : Nat) (g h : dH) : Prop := g a 0 = h c 0 ∧ g a 1 = h c 1 ∧ g a 2 = h c 2 ∧ dtx (g a 3) = dtx (h c 3) ∧ (∀ k, k < 8 → g (a + 1) k = h (c + 1) k ∧ g (a + 2) k = h (c + 2) k ∧ g (a + 3) k = h (c + 3) k) ∧ (∀ i k, i < 8 → k < 8 → g (a + 5 + i) k = h (c + 5 + i) k) ∧ ∀ b k, ¬ (a ≤ b ∧ b ≤ a + 12) → g b k = h b k
theorem become_79 {a c : Nat} (ha : zS a) (hc : zS c) (hac : ¬ a = c) {h0 : dH} : ∀ (n : Nat) (v2 : Int32) (h : dH), 0 ≤ v2.toInt → v2.toInt ≤ 8 → (∀ i k, i < v2.toInt.toNat → k < 8 → h (a + 5 + i) k = h0 (c + 5 + i) k) → (∀ b k, ¬ (a + 5 ≤ b ∧ b ≤ a + 12) → h b k = h0 b k) → Al (l_X3_become_79 a c (fun g => some g) n v2 h) (fun g => (∀ i k, i < 8 → k < 8 → g (a + 5 + i) k = h0 (c + 5 + i) k) ∧ ∀ b k, ¬ (a + 5 ≤ b ∧ b ≤ a + 12) → g b k = h0 b k)
  | 0, _, _, _, _, _, _ => al_none
  | n + 1, v2, h, p0, p1, h1, h2 => by
    have z := zS_or ha
    have zc := zS_or hc
    rw [l_X3_become_79]
    have t := inc1 (v := v2) (by omega)
    have en : (v2 + 1).toInt.toNat = v2.toInt.toNat + 1 := by omega
    refine al_ite (fun c1 => al_ite (fun _ => al_ite (fun _ => al_oH' (fun g hg => ?_)) (fun _ => al_none)) (fun _ => al_none)) (fun c1 => al_some ⟨fun i k hi hk => h1 i k (by omega) hk, h2⟩)
    refine become_79 ha hc hac n (v2 + 1) g (by omega) (by omega) (fun i k hi hk => ?_) (fun b k q => ?_)
    · rw [hg]
      unfold dcopy
      by_cases e : i = v2.toInt.toNat
      · subst e
        rw [if_pos ⟨rfl, by omega, by omega⟩, Nat.sub_zero, Nat.zero_add]
        exact h2 _ _ (by omega)
      · rw [if_neg (by omega)]
        exact h1 i k (by omega) hk
    · rw [hg]
      unfold dcopy
      rw [if_neg (by omega)]
      exact h2 b k q
theorem become_ok {a c : Nat} (ha : zS a) (hc : zS c) (hac : ¬ a = c) (h : dH) : Al (f_X3_become a c h) (fun g => becQ a c g h) := by
  have z := zS_or ha
  have zc := zS_or hc
  unfold f_X3_become
  refine al_oH' (fun g1 q1 => al_oH' (fun g2 q2 => al_oH' (fun g3 q3 => al_oH' (fun g4 q4 => al_oH' (fun g5 q5 => al_oH' (fun g6 q6 => al_oH' (fun g7 q7 => ?_)))))))
  have e4 : ∀ b k, ¬ (b = a ∧ k < 4) → g4 b k = h b k := fun b k q => by rw [q4, dU_ne (by omega), q3, dU_ne (by omega), q2, dU_ne (by omega), q1, dU_ne (by omega)]
  have e7 : ∀ b k, ¬ (b = a ∧ k < 4) → ¬ (b = a + 1 ∧ k < 8) → ¬ (b = a + 2 ∧ k < 8) → ¬ (b = a + 3 ∧ k < 8) → g7 b k = h b k := fun b k x0 x1 x2 x3 => by
    rw [q7]; unfold dcopy; rw [if_neg (by omega), q6]; unfold dcopy; rw [if_neg (by omega), q5]; unfold dcopy; rw [if_neg (by omega)]; exact e4 b k x0
  have ea : ∀ k, k < 4 → g7 a k = g4 a k := fun k hk => by
    rw [q7]; unfold dcopy; rw [if_neg (by omega), q6]; unfold dcopy; rw [if_neg (by omega), q5]; unfold dcopy; rw [if_neg (by omega)]
  refine al_mono (become_79 ha hc hac (h0 := g7) _ 0 g7 (by decide) (by decide) (fun i k hi _ => absurd hi (by rw [ti0]; omega)) (fun _ _ _ => rfl)) (fun g hg => ?_)
  obtain ⟨r1, r2⟩ := hg
  refine ⟨?_, ?_, ?_, ?_, fun k hk => ⟨?_, ?_, ?_⟩, fun i k hi hk => ?_, fun b k q => ?_⟩
  · rw [r2 _ _ (by omega), ea 0 (by omega), q4, dU_ne (by omega), q3, dU_ne (by omega), q2, dU_ne (by omega), q1, dU_eq]
  · rw [r2 _ _ (by omega), ea 1 (by omega), q4, dU_ne (by omega), q3, dU_ne (by omega), q2, dU_eq, q1, dU_ne (by omega)]
  · rw [r2 _ _ (by omega), ea 2 (by omega), q4, dU_ne (by omega), q3, dU_eq, q2, dU_ne (by omega), q1, dU_ne (by omega)]
  · rw [r2 _ _ (by omega), ea 3 (by omega), q4, dU_eq, dtx_dti (zT_dtx _), q3, dU_ne (by omega), q2, dU_ne (by omega), q1, dU_ne (by omega)]
  · rw [r2 _ _ (by omega), q7]; unfold dcopy; rw [if_neg (by omega), q6]; unfold dcopy; rw [if_neg (by omega), q5]; unfold dcopy; rw [if_pos ⟨rfl, by omega, by omega⟩, Nat.sub_zero, Nat.zero_add]
    exact e4 _ _ (by omega)
  · rw [r2 _ _ (by omega), q7]; unfold dcopy; rw [if_neg (by omega), q6]; unfold dcopy; rw [if_pos ⟨rfl, by omega, by omega⟩, Nat.sub_zero, Nat.zero_add, q5]; unfold dcopy; rw [if_neg (by omega)]
    exact e4 _ _ (by omega)
  · rw [r2 _ _ (by omega), q7]; unfold dcopy; rw [if_pos ⟨rfl, by omega, by omega⟩, Nat.sub_zero, Nat.zero_add, q6]; unfold dcopy; rw [if_neg (by omega), q5]; unfold dcopy; rw [if_neg (by omega)]
    exact e4 _ _ (by omega)
  · rw [r1 i k hi hk]
    exact e7 _ _ (by omega) (by omega) (by omega) (by omega)
  · rw [r2 b k (by omega)]
    exact e7 _ _ (by omega) (by omega) (by omega) (by omega)
theorem becQ.sc {a c : Nat} (ha : zS a) (hc : zS c) {Y : zY} {y : Int32} {st : zT2} {g h : dH} (q : becQ a c g h) (H : SC c Y y st h) : SC a Y y st g := by
  have z := zS_or ha
  have zc := zS_or hc
  obtain ⟨q0, q1, q2, q3, q4, q5, q6⟩ := q
  obtain ⟨h0, h1, h2, h3, h4, h5, h6, h7, h8⟩ := H
  have t := dtx_or (h c 3)
  obtain ⟨c1, c2, c3⟩ := tEv_congr (f := g) (g := h) (ta := dtx (h c 3)) (fun k => q6 _ k (by omega)) (fun k => q6 _ k (by omega))
  refine ⟨q0.trans h0, q1.trans h1, by rw [q2]; exact h2, h3, fun i hi => ?_, fun i j hi hj => ?_, ?_, ?_, ?_⟩
  · obtain ⟨x1, x2, x3⟩ := q4 i (by omega)
    rw [x1, x2, x3]; exact h4 i hi
  · rw [q5 i j (by omega) (by omega)]; exact h5 i j hi hj
  · rw [q3]; exact c1.mpr h6
  · rw [q3]; exact fun nm pt hp => by rw [c2]; exact h7 nm pt hp
  · rw [q3]; exact fun pt nm hp => by rw [c3]; exact h8 pt nm hp
/-- the class's years in thought -/
theorem pass_2 {a : Nat} (ha : zS a) {Y : zY} (hY : Yr Y) {y : Int32} {st : zT2} (W : Wf (yN Y) st) {k : dH → Option (Int32 × dH)} {P : Int32 × dH → Prop} {v1 : Int32} {m : Nat} (hv : v1.toInt = m) (hm : m < 1000) : ∀ (n : Nat) (v2 : Int32) (h : dH), 0 ≤ v2.toInt → v2.toInt ≤ m → SC a Y (liveS Y y st v2.toInt.toNat).1 (liveS Y y st v2.toInt.toNat).2 h → (∀ g, SC a Y (liveS Y y st m).1 (liveS Y y st m).2 g → fFr a (yN Y) g h → Al (k g) P) → Al (l_X3_pass_2 a v1 k n v2 h) P
  | 0, _, _, _, _, _, _ => al_none
  | n + 1, v2, h, p0, p1, H, K => by
    rw [l_X3_pass_2]
    have t1 := inc1 (v := v2) (by omega)
    refine al_ite (fun c => al_oV' (fun g3 q3 => al_oV' (fun g4 q4 => ?_))) (fun c => ?_)
    · obtain ⟨x1, w1, x2⟩ := holdFeast_ok ha hY H (W.live _) g3 q3
      obtain ⟨x3, w2, x4⟩ := endYear_ok ha hY x1 w1 g4 q4
      have e2 : (v2 + 1).toInt.toNat = v2.toInt.toNat + 1 := by omega
      exact pass_2 ha hY W hv hm n (v2 + 1) g4 (by omega) (by omega) (by rw [e2]; exact x3) (fun g' z1 z2 => K g' z1 (z2.trans (x4.trans x2)))
    · have e : v2.toInt.toNat = m := by omega
      rw [e] at H
      exact K h H (fFr.refl _ _ _)
def frN (Y : zY) (y : Int32) (st : zT2) (m : Nat) : Int32 := frS (knS Y (liveS Y y st m).2) (yN Y)
theorem pass_ok {a : Nat} (ha : zS a) {Y : zY} (hY : Yr Y) {y : Int32} {st : zT2} (W : Wf (yN Y) st) {v1 : Int32} {m : Nat} (hv : v1.toInt = m) (hm : m < 1000) {h : dH} (H : SC a Y y st h) : Al (f_X3_pass a v1 h) (fun o => o.1 = frN Y y st m ∧ SC a Y (liveS Y y st m).1 (liveS Y y st m).2 o.2 ∧ fFr a (yN Y) o.2 h) :=
  pass_2 ha hY W hv hm _ 0 h (by decide) (by rw [ti0]; omega) H (fun g x1 x2 => al_oP (fun r hr => al_some ⟨friends_ok x1.kn x1.2.2.1 x1.2.2.2.1 r hr, x1, x2⟩))
/-! the reference lays aside, and back -/
/-- all but what it scribbles -/
def bFr (g h : dH) : Prop := ∀ a k, ¬ (a = 0 ∧ 14 ≤ k ∧ k ≤ 28) → ¬ (a = 0 ∧ k = 34) → ¬ (8 ≤ a ∧ a ≤ 10) → ¬ (a = 7 ∧ 64 ≤ k) → g a k = h a k
theorem bFr.refl (h : dH) : bFr h h := fun _ _ _ _ _ _ => rfl
theorem bFr.trans {f g h : dH} (q : bFr f g) (r : bFr g h) : bFr f h := fun a k x y z w => (q a k x y z w).trans (r a k x y z w)
theorem mFr.b {g h : dH} (q : mFr g h) : bFr g h := fun a k x _ _ _ => q a k x
theorem SM.b {Y : zY} {y : Int32} {st : zT2} {g h : dH} (q : bFr g h) (H : SM Y y st h) : SM Y y st g := by
  obtain ⟨h0, h1, h2, h3, h4, h5, h6⟩ := H
  refine ⟨by rw [q 0 7 (by omega) (by omega) (by omega) (by omega)]; exact h0, by rw [q 0 8 (by omega) (by omega) (by omega) (by omega)]; exact h1, by rw [q 0 13 (by omega) (by omega) (by omega) (by omega)]; exact h2, h3, fun i hi => ?_, fun i j hi hj => ?_, h6.same (fun k => q 1 k (by omega) (by omega) (by omega) (by omega)) (fun k => q 2 k (by omega) (by omega) (by omega) (by omega)) (q 0 4 (by omega) (by omega) (by omega) (by omega))⟩
  · rw [q 4 i (by omega) (by omega) (by omega) (by omega), q 5 i (by omega) (by omega) (by omega) (by omega), q 6 i (by omega) (by omega) (by omega) (by omega)]; exact h4 i hi
  · rw [q 7 _ (by omega) (by omega) (by omega) (by omega)]; exact h5 i j hi hj
theorem mNo.b {g h : dH} (q : bFr g h) (n : mNo h) : mNo g := by
  unfold mNo at n ⊢
  rw [q 0 29 (by omega) (by omega) (by omega) (by omega), q 0 30 (by omega) (by omega) (by omega) (by omega), q 0 31 (by omega) (by omega) (by omega) (by omega)]
  exact n
theorem laysAside_2 {h0 : dH} {k : dH → Option dH} {P : dH → Prop} : ∀ (n : Nat) (v1 : Int32) (h : dH), 0 ≤ v1.toInt → v1.toInt ≤ 64 → (∀ j, j < v1.toInt.toNat → h 9 j = h0 7 j) → (∀ a j, ¬ a = 9 → h a j = h0 a j) → (∀ g, (∀ j, j < 64 → g 9 j = h0 7 j) → (∀ a j, ¬ a = 9 → g a j = h0 a j) → Al (k g) P) → Al (l_X7_laysAside_2 k n v1 h) P
  | 0, _, _, _, _, _, _, _ => al_none
  | n + 1, v1, h, p0, p1, h1, h2, K => by
    rw [l_X7_laysAside_2]
    have t := inc1 (v := v1) (by omega)
    refine al_ite (fun c1 => al_ite (fun _ => al_ite (fun _ => al_oH' (fun g hg => ?_)) (fun _ => al_none)) (fun _ => al_none)) (fun c1 => K h (fun j hj => h1 j (by omega)) h2)
    refine laysAside_2 n (v1 + 1) g (by omega) (by omega) (fun j hj => ?_) (fun a j q => by rw [hg, dU_ne (by omega)]; exact h2 a j q) K
    by_cases e : j = v1.toInt.toNat
    · rw [e, hg, dU_eq]; exact h2 _ _ (by omega)
    · rw [hg, dU_ne (by omega)]; exact h1 j (by omega)
theorem laysAside_ok (h : dH) : Al (f_X7_laysAside h) (fun g => (∀ j, j < 64 → g 9 j = h 7 j) ∧ g 0 34 = h 0 7 ∧ ∀ a j, ¬ a = 9 → ¬ (a = 0 ∧ j = 34) → g a j = h a j) :=
  laysAside_2 (h0 := h) _ 0 h (by decide) (by decide) (fun j hj => absurd hj (by rw [ti0]; omega)) (fun _ _ _ => rfl) (fun g q1 q2 => al_oH' (fun g2 hg => al_some ⟨fun j hj => by rw [hg, dU_ne (by omega)]; exact q1 j hj, by rw [hg, dU_eq]; exact q2 _ _ (by omega), fun a j x1 x2 => by rw [hg, dU_ne x2]; exact q2 a j x1⟩))
theorem laysBack_2 {h0 : dH} {k : dH → Option dH} {P : dH → Prop} : ∀ (n : Nat) (v1 : Int32) (h : dH), 0 ≤ v1.toInt → v1.toInt ≤ 64 → (∀ j, j < v1.toInt.toNat → h 7 j = h0 9 j) → (∀ a j, ¬ a = 7 → h a j = h0 a j) → (∀ g, (∀ j, j < 64 → g 7 j = h0 9 j) → (∀ a j, ¬ a = 7 → g a j = h0 a j) → Al (k g) P) → Al (l_X7_laysBack_2 k n v1 h) P
  | 0, _, _, _, _, _, _, _ => al_none
  | n + 1, v1, h, p0, p1, h1, h2, K => by
    rw [l_X7_laysBack_2]
    have t := inc1 (v := v1) (by omega)
    refine al_ite (fun c1 => al_ite (fun _ => al_ite (fun _ => al_oH' (fun g hg => ?_)) (fun _ => al_none)) (fun _ => al_none)) (fun c1 => K h (fun j hj => h1 j (by omega)) h2)
    refine laysBack_2 n (v1 + 1) g (by omega) (by omega) (fun j hj => ?_) (fun a j q => by rw [hg, dU_ne (by omega)]; exact h2 a j q) K
    by_cases e : j = v1.toInt.toNat
    · rw [e, hg, dU_eq]; exact h2 _ _ (by omega)
    · rw [hg, dU_ne (by omega)]; exact h1 j (by omega)
theorem laysBack_ok (h : dH) : Al (f_X7_laysBack h) (fun g => (∀ j, j < 64 → g 7 j = h 9 j) ∧ g 0 7 = h 0 34 ∧ ∀ a j, ¬ a = 7 → ¬ (a = 0 ∧ j = 7) → g a j = h a j) :=
  laysBack_2 (h0 := h) _ 0 h (by decide) (by decide) (fun j hj => absurd hj (by rw [ti0]; omega)) (fun _ _ _ => rfl) (fun g q1 q2 => al_oH' (fun g2 hg => al_some ⟨fun j hj => by rw [hg, dU_ne (by omega)]; exact q1 j hj, by rw [hg, dU_eq]; exact q2 _ _ (by omega), fun a j x1 x2 => by rw [hg, dU_ne x2]; exact q2 a j x1⟩))
/-- all but names, reading, strengths, YEAR, ways -/
def wFr (g h : dH) : Prop := ∀ a k, ¬ (a = 0 ∧ 14 ≤ k ∧ k ≤ 28) → ¬ (a = 0 ∧ k = 7) → ¬ a = 7 → ¬ a = 8 → g a k = h a k
theorem gFr.w {g h : dH} (q : gFr g h) : wFr g h := fun a k x y z _ => q a k x y z
theorem wFr.trans {f g h : dH} (q : wFr f g) (r : wFr g h) : wFr f h := fun a k x y z w => (q a k x y z w).trans (r a k x y z w)
/-- laid back, all is as it was -/
theorem back_b {h g1 g2 g3 : dH} (q1 : (∀ j, j < 64 → g1 9 j = h 7 j) ∧ g1 0 34 = h 0 7 ∧ ∀ a j, ¬ a = 9 → ¬ (a = 0 ∧ j = 34) → g1 a j = h a j) (q2 : wFr g2 g1) (q3 : (∀ j, j < 64 → g3 7 j = g2 9 j) ∧ g3 0 7 = g2 0 34 ∧ ∀ a j, ¬ a = 7 → ¬ (a = 0 ∧ j = 7) → g3 a j = g2 a j) : bFr g3 h := by
  obtain ⟨a1, a2, a3⟩ := q1
  obtain ⟨b1, b2, b3⟩ := q3
  intro a k x y z w
  by_cases ha : a = 7
  · subst ha
    rw [b1 k (by omega), q2 9 k (by omega) (by omega) (by omega) (by omega), a1 k (by omega)]
  · by_cases hk : a = 0 ∧ k = 7
    · obtain ⟨rfl, rfl⟩ := hk
      rw [b2, q2 0 34 (by omega) (by omega) (by omega) (by omega), a2]
    · rw [b3 a k ha hk, q2 a k x hk ha (by omega), a3 a k (by omega) (by omega)]
theorem aside_sm {Y : zY} {y : Int32} {st : zT2} {g h : dH} (H : SM Y y st h) (q : (∀ j, j < 64 → g 9 j = h 7 j) ∧ g 0 34 = h 0 7 ∧ ∀ a j, ¬ a = 9 → ¬ (a = 0 ∧ j = 34) → g a j = h a j) : SM Y y st g := H.b (fun a k _ y z _ => q.2.2 a k (by omega) y)
theorem friendsBehind_ok {Y : zY} {y : Int32} {st : zT2} {v1 : Int32} {m : Nat} (hv : v1.toInt = m) (hm : m < 1000) {h : dH} (H : SM Y y st h) (n : mNo h) : Al (f_X7_friendsBehind v1 h) (fun o => o.1 = frN Y y st m ∧ bFr o.2 h) := by
  unfold f_X7_friendsBehind
  refine al_oV' (fun g1 h1 => al_oV' (fun g2 h2 => al_oP (fun r hr => al_oV' (fun g4 h4 => al_some ?_))))
  have q1 := laysAside_ok h g1 h1
  obtain ⟨x1, x2⟩ := lives_ok hv hm (aside_sm H q1) g2 h2
  have n2 : mNo g2 := by
    unfold mNo at n ⊢
    rw [x2 0 29 (by omega) (by omega) (by omega), x2 0 30 (by omega) (by omega) (by omega), x2 0 31 (by omega) (by omega) (by omega), q1.2.2 0 29 (by omega) (by omega), q1.2.2 0 30 (by omega) (by omega), q1.2.2 0 31 (by omega) (by omega)]
    exact n
  exact ⟨mfriends_ok (x1.kn n2) x1.2.2.1 x1.2.2.2.1 r hr, back_b q1 x2.w (laysBack_ok g2 g4 h4)⟩
end
end

section
/-! quiet tables; who is seated -/
noncomputable section
def dnS (Y : zY) (y : Int32) (p : Int) : Nat → Int32
  | 0 => 0
  | m + 1 => if (yT Y m).toInt = p then dnS Y y p m + sdS Y y m else dnS Y y p m
def stS (Y : zY) (p : Int) : Nat → Int32 := cnt32 (fun k => decide ((yT Y k).toInt = p))
def qtS (Y : zY) (y : Int32) : Nat → Int32 × Int32
  | 0 => (-1, 0)
  | p + 1 => if (stS Y p (yN Y)).toInt = 0 then qtS Y y p else if (qtS Y y p).1.toInt = -1 then (Int32.ofNat p, dnS Y y p (yN Y)) else if (dnS Y y p (yN Y)).toInt < (qtS Y y p).2.toInt then (Int32.ofNat p, dnS Y y p (yN Y)) else qtS Y y p
theorem i32_of {v : Int32} {p : Nat} (h : v.toInt = p) : v = Int32.ofNat p := by
  rw [← i32_nat (v := v) (by omega), show v.toInt.toNat = p by omega]
section QC
theorem din_4 {a : Nat} (ha : zS a) {Y : zY} {y : Int32} {st : zT2} (W : Wf (yN Y) st) {v1 : Int32} {h0 : dH} : ∀ (n : Nat) (v2 v3 : Int32) (h : dH), 0 ≤ v3.toInt → v3.toInt ≤ yN Y → v2 = dnS Y y v1.toInt v3.toInt.toNat → SC a Y y st h → nFr a h h0 → Al (l_X3_dinAt_4 a v1 (fun v g => some (v, g)) n v2 v3 h) (fun o => o.1 = dnS Y y v1.toInt (yN Y) ∧ SC a Y y st o.2 ∧ nFr a o.2 h0)
  | 0, _, _, _, _, _, _, _, _ => al_none
  | n + 1, v2, v3, h, p0, p1, e, H, F => by
    obtain ⟨H0, H1, H2, H3, H4, H5, -⟩ := id H
    rw [l_X3_dinAt_4, H2]
    have t := inc1 (v := v3) (by omega)
    have en : (v3 + 1).toInt.toNat = v3.toInt.toNat + 1 := by omega
    refine al_ite (fun c => al_ite (fun _ => ?_) (fun _ => al_none)) (fun c => al_some ⟨by rw [e, show v3.toInt.toNat = yN Y by omega], H, F⟩)
    rw [(H4 v3.toInt.toNat (by omega)).2.2]
    refine al_ite (fun z => al_oI (fun r g hr => ?_)) (fun z => ?_)
    · obtain ⟨x1, x2⟩ := sounds_ok ha H (i := v3.toInt.toNat) (by omega) (by omega) (W.2 _ (by omega)) (r, g) hr
      simp only at x1 x2
      exact din_4 ha W n _ (v3 + 1) g (by omega) (by omega) (by rw [en, dnS, if_pos z, e, x1]) (H.n ha x2) (x2.trans F)
    · exact din_4 ha W n _ (v3 + 1) h (by omega) (by omega) (by rw [en, dnS, if_neg z, e]) H F
theorem quiet_6 {a : Nat} (ha : zS a) {Y : zY} {y : Int32} {st : zT2} (W : Wf (yN Y) st) {h0 : dH} : ∀ (n : Nat) (v1 v2 v3 : Int32) (h : dH), 0 ≤ v3.toInt → v3.toInt ≤ 4 → v1 = (qtS Y y v3.toInt.toNat).1 → v2 = (qtS Y y v3.toInt.toNat).2 → SC a Y y st h → nFr a h h0 → Al (l_X3_quietTable_6 a (fun v g => some (v, g)) n v1 v2 v3 h) (fun o => o.1 = (qtS Y y 4).1 ∧ nFr a o.2 h0)
  | 0, _, _, _, _, _, _, _, _, _, _ => al_none
  | n + 1, v1, v2, v3, h, p0, p1, e1, e2, H, F => by
    rw [l_X3_quietTable_6]
    have t := inc1 (v := v3) (by omega)
    have en : (v3 + 1).toInt.toNat = v3.toInt.toNat + 1 := by omega
    obtain ⟨p, hp⟩ : ∃ p, v3.toInt.toNat = p := ⟨_, rfl⟩
    have hp' : v3.toInt = p := by omega
    rw [hp] at en e1 e2
    refine al_ite (fun c => al_oP (fun r3 hr3 => ?_)) (fun c => al_some ⟨by rw [e1, show p = 4 by omega], F⟩)
    have s3 := seatsAt_ok H r3 hr3
    rw [if_neg (by omega), hp'] at s3
    have s3' : r3 = stS Y p (yN Y) := s3
    have q1 : (stS Y p (yN Y)).toInt = 0 → qtS Y y (p + 1) = qtS Y y p := fun z => by rw [qtS, if_pos z]
    refine al_ite (fun z => quiet_6 ha W n _ _ (v3 + 1) h (by omega) (by omega) (by rw [en, q1 (by rw [← s3']; exact z), e1]) (by rw [en, q1 (by rw [← s3']; exact z), e2]) H F) (fun z => al_oI (fun r6 g7 hr6 => ?_))
    obtain ⟨d1, d2, d3⟩ := din_4 ha W (v1 := v3) fuel0 0 0 h (by decide) (by rw [ti0]; omega) rfl H F (r6, g7) hr6
    simp only at d1 d2 d3
    rw [hp'] at d1
    have z' : ¬ (stS Y p (yN Y)).toInt = 0 := by rw [← s3']; exact z
    have ev := i32_of hp'
    refine al_ite (fun u => ?_) (fun u => al_ite (fun w => ?_) (fun w => ?_))
    · have q2 : qtS Y y (p + 1) = (Int32.ofNat p, dnS Y y p (yN Y)) := by rw [qtS, if_neg z', if_pos (by rw [← e1]; exact u)]
      exact quiet_6 ha W n _ _ (v3 + 1) g7 (by omega) (by omega) (by rw [en, q2, ev]) (by rw [en, q2, d1]) d2 d3
    · have q2 : qtS Y y (p + 1) = (Int32.ofNat p, dnS Y y p (yN Y)) := by rw [qtS, if_neg z', if_neg (by rw [← e1]; exact u), if_pos (by rw [← e2, ← d1]; exact w)]
      exact quiet_6 ha W n _ _ (v3 + 1) g7 (by omega) (by omega) (by rw [en, q2, ev]) (by rw [en, q2, d1]) d2 d3
    · have q2 : qtS Y y (p + 1) = qtS Y y p := by rw [qtS, if_neg z', if_neg (by rw [← e1]; exact u), if_neg (by rw [← e2, ← d1]; exact w)]
      exact quiet_6 ha W n _ _ (v3 + 1) g7 (by omega) (by omega) (by rw [en, q2, e1]) (by rw [en, q2, e2]) d2 d3
theorem quiet_ok {a : Nat} (ha : zS a) {Y : zY} {y : Int32} {st : zT2} (W : Wf (yN Y) st) {h : dH} (H : SC a Y y st h) : Al (f_X3_quietTable a h) (fun o => o.1 = (qtS Y y 4).1 ∧ nFr a o.2 h) := by
  refine quiet_6 ha W _ (-1) 0 0 h (by decide) (by decide) ?_ ?_ H (nFr.refl _ _)
  · rw [ti0]; rfl
  · rw [ti0]; rfl
end QC
theorem quiet_20 {Y : zY} {y : Int32} {st : zT2} {v3 : Int32} {h0 : dH} {k : Int32 → Int32 → dH → Option (Int32 × dH)} {P : Int32 × dH → Prop} (K : ∀ g, SM Y y st g → mFr g h0 → Al (k (stS Y v3.toInt (yN Y)) (dnS Y y v3.toInt (yN Y)) g) P) : ∀ (n : Nat) (v4 v5 v6 : Int32) (h : dH), 0 ≤ v6.toInt → v6.toInt ≤ yN Y → v4 = stS Y v3.toInt v6.toInt.toNat → v5 = dnS Y y v3.toInt v6.toInt.toNat → SM Y y st h → mFr h h0 → Al (l_X7_quietest_20 v3 k n v4 v5 v6 h) P
  | 0, _, _, _, _, _, _, _, _, _, _ => al_none
  | n + 1, v4, v5, v6, h, p0, p1, e4, e5, H, F => by
    obtain ⟨H0, H1, H2, H3, H4, H5, -⟩ := id H
    rw [l_X7_quietest_20, H2]
    have t := inc1 (v := v6) (by omega)
    have en : (v6 + 1).toInt.toNat = v6.toInt.toNat + 1 := by omega
    refine al_ite (fun c => al_ite (fun _ => ?_) (fun _ => al_none)) (fun c => ?_)
    · rw [(H4 v6.toInt.toNat (by omega)).2.2]
      refine al_ite (fun z => al_oI (fun r g hr => ?_)) (fun z => ?_)
      · obtain ⟨x1, x2⟩ := soundsOf_ok H (i := v6.toInt.toNat) (by omega) (by omega) (r, g) hr
        simp only at x1 x2
        refine quiet_20 K n _ _ (v6 + 1) g (by omega) (by omega) ?_ (by rw [en, dnS, if_pos z, e5, x1]) (H.n x2) (x2.trans F)
        rw [en]
        unfold stS at e4 ⊢
        rw [cnt32, if_pos (decide_eq_true z), e4]
      · refine quiet_20 K n _ _ (v6 + 1) h (by omega) (by omega) ?_ (by rw [en, dnS, if_neg z, e5]) H F
        rw [en]
        unfold stS at e4 ⊢
        rw [cnt32, if_neg (by rw [decide_eq_true_eq]; exact z), e4]
    · rw [e4, e5, show v6.toInt.toNat = yN Y by omega]
      exact K h H F
theorem quietest_6 {Y : zY} {y : Int32} {st : zT2} {h0 : dH} : ∀ (n : Nat) (v1 v2 v3 : Int32) (h : dH), 0 ≤ v3.toInt → v3.toInt ≤ 4 → v1 = (qtS Y y v3.toInt.toNat).1 → v2 = (qtS Y y v3.toInt.toNat).2 → SM Y y st h → mFr h h0 → Al (l_X7_quietest_6 (fun v g => some (v, g)) n v1 v2 v3 h) (fun o => o.1 = (qtS Y y 4).1 ∧ mFr o.2 h0)
  | 0, _, _, _, _, _, _, _, _, _, _ => al_none
  | n + 1, v1, v2, v3, h, p0, p1, e1, e2, H, F => by
    have hN8 := H.2.2.2.1
    rw [l_X7_quietest_6]
    have t := inc1 (v := v3) (by omega)
    have en : (v3 + 1).toInt.toNat = v3.toInt.toNat + 1 := by omega
    obtain ⟨p, hp⟩ : ∃ p, v3.toInt.toNat = p := ⟨_, rfl⟩
    have hp' : v3.toInt = p := by omega
    rw [hp] at en e1 e2
    refine al_ite (fun c => ?_) (fun c => al_some ⟨by rw [e1, show p = 4 by omega], F⟩)
    refine quiet_20 (st := st) (y := y) (Y := Y) (h0 := h0) (fun g G gF => ?_) _ 0 0 0 h (by decide) (by rw [ti0]; omega) rfl rfl H F
    rw [hp']
    have rg : 0 ≤ (stS Y p (yN Y)).toInt := (cnt32_rng _ _ (by omega)).1
    have ev := i32_of hp'
    refine al_ite (fun z => al_ite (fun u => ?_) (fun u => al_ite (fun w => ?_) (fun w => ?_))) (fun z => ?_)
    · have q2 : qtS Y y (p + 1) = (Int32.ofNat p, dnS Y y p (yN Y)) := by rw [qtS, if_neg (by omega), if_pos (by rw [← e1]; exact u)]
      exact quietest_6 n _ _ (v3 + 1) g (by omega) (by omega) (by rw [en, q2, ev]) (by rw [en, q2]) G gF
    · have q2 : qtS Y y (p + 1) = (Int32.ofNat p, dnS Y y p (yN Y)) := by rw [qtS, if_neg (by omega), if_neg (by rw [← e1]; exact u), if_pos (by rw [← e2]; exact w)]
      exact quietest_6 n _ _ (v3 + 1) g (by omega) (by omega) (by rw [en, q2, ev]) (by rw [en, q2]) G gF
    · have q2 : qtS Y y (p + 1) = qtS Y y p := by rw [qtS, if_neg (by omega), if_neg (by rw [← e1]; exact u), if_neg (by rw [← e2]; exact w)]
      exact quietest_6 n _ _ (v3 + 1) g (by omega) (by omega) (by rw [en, q2, e1]) (by rw [en, q2, e2]) G gF
    · have q2 : qtS Y y (p + 1) = qtS Y y p := by rw [qtS, if_pos (by omega)]
      exact quietest_6 n _ _ (v3 + 1) g (by omega) (by omega) (by rw [en, q2, e1]) (by rw [en, q2, e2]) G gF
theorem quietest_ok {Y : zY} {y : Int32} {st : zT2} {h : dH} (H : SM Y y st h) : Al (f_X7_quietest h) (fun o => o.1 = (qtS Y y 4).1 ∧ mFr o.2 h) := by
  refine quietest_6 _ (-1) 0 0 h (by decide) (by decide) ?_ ?_ H (mFr.refl _)
  · rw [ti0]; rfl
  · rw [ti0]; rfl
/-! seated -/
/-- tables are 0 .. 3, or none -/
def Tr (Y : zY) : Prop := ∀ i, i < yN Y → -1 ≤ (yT Y i).toInt ∧ (yT Y i).toInt ≤ 3
def seS (Y : zY) : Int32 := cnt32 (fun k => decide (¬ (yT Y k).toInt = -1)) (yN Y)
theorem four_sum {Y : zY} (hT : Tr Y) : ∀ m, m ≤ yN Y → m ≤ 8 → (stS Y 0 m).toInt + (stS Y 1 m).toInt + (stS Y 2 m).toInt + (stS Y 3 m).toInt = (cnt32 (fun k => decide (¬ (yT Y k).toInt = -1)) m).toInt
  | 0, _, _ => by
    unfold stS
    rw [cnt32, cnt32, cnt32, cnt32, cnt32, ti0]; rfl
  | m + 1, h1, h2 => by
    have ih := four_sum hT m (by omega) (by omega)
    have r : ∀ f, 0 ≤ (cnt32 f m).toInt ∧ (cnt32 f m).toInt ≤ m := fun f => cnt32_rng f m (by omega)
    have one : ∀ f, (cnt32 f m + 1).toInt = (cnt32 f m).toInt + 1 := fun f => by have := r f; exact inc1 (by omega)
    have tr := hT m (by omega)
    unfold stS at ih ⊢
    have st : ∀ (p : Int) , (cnt32 (fun k => decide ((yT Y k).toInt = p)) (m + 1)).toInt = (cnt32 (fun k => decide ((yT Y k).toInt = p)) m).toInt + (if (yT Y m).toInt = p then 1 else 0) := by
      intro p
      rw [cnt32]
      by_cases c : (yT Y m).toInt = p
      · rw [if_pos (decide_eq_true c), if_pos c, one]
      · rw [if_neg (by rw [decide_eq_true_eq]; exact c), if_neg c, Int.add_zero]
    have st2 : (cnt32 (fun k => decide (¬ (yT Y k).toInt = -1)) (m + 1)).toInt = (cnt32 (fun k => decide (¬ (yT Y k).toInt = -1)) m).toInt + (if (yT Y m).toInt = -1 then 0 else 1) := by
      rw [cnt32]
      by_cases c : (yT Y m).toInt = -1
      · rw [if_neg (by rw [decide_eq_true_eq]; exact fun z => z c), if_pos c, Int.add_zero]
      · rw [if_pos (decide_eq_true c), if_neg c, one]
    rw [st, st, st, st, st2]
    have : (yT Y m).toInt = -1 ∨ (yT Y m).toInt = 0 ∨ (yT Y m).toInt = 1 ∨ (yT Y m).toInt = 2 ∨ (yT Y m).toInt = 3 := by omega
    rcases this with q | q | q | q | q <;> simp only [q] <;> simp only [reduceIte, show ¬ ((-1 : Int) = 0) by decide, show ¬ ((-1 : Int) = 1) by decide, show ¬ ((-1 : Int) = 2) by decide, show ¬ ((-1 : Int) = 3) by decide, show ¬ ((0 : Int) = 1) by decide, show ¬ ((0 : Int) = 2) by decide, show ¬ ((0 : Int) = 3) by decide, show ¬ ((0 : Int) = -1) by decide, show ¬ ((1 : Int) = 0) by decide, show ¬ ((1 : Int) = 2) by decide, show ¬ ((1 : Int) = 3) by decide, show ¬ ((1 : Int) = -1) by decide, show ¬ ((2 : Int) = 0) by decide, show ¬ ((2 : Int) = 1) by decide, show ¬ ((2 : Int) = 3) by decide, show ¬ ((2 : Int) = -1) by decide, show ¬ ((3 : Int) = 0) by decide, show ¬ ((3 : Int) = 1) by decide, show ¬ ((3 : Int) = 2) by decide, show ¬ ((3 : Int) = -1) by decide] <;> omega
def sm4 (Y : zY) : Nat → Int32
  | 0 => 0
  | p + 1 => sm4 Y p + stS Y p (yN Y)
theorem sm4_ok {Y : zY} (hT : Tr Y) (hN : yN Y ≤ 8) : sm4 Y 4 = seS Y := by
  have r : ∀ p, 0 ≤ (stS Y p (yN Y)).toInt ∧ (stS Y p (yN Y)).toInt ≤ 8 := fun p => by
    have := cnt32_rng (fun k => decide ((yT Y k).toInt = p)) (yN Y) (by omega)
    unfold stS
    omega
  have r0 := r 0
  have r1 := r 1
  have r2 := r 2
  have r3 := r 3
  have f := four_sum hT (yN Y) (Nat.le_refl _) hN
  apply Int32.toInt_inj.mp
  show (0 + stS Y (0 : Nat) (yN Y) + stS Y (1 : Nat) (yN Y) + stS Y (2 : Nat) (yN Y) + stS Y (3 : Nat) (yN Y)).toInt = _
  unfold seS
  rw [← f]
  have a1 : (0 + stS Y (0 : Nat) (yN Y)).toInt = 0 + (stS Y 0 (yN Y)).toInt := i_add ti0 rfl (by omega) (by omega)
  have a2 : (0 + stS Y (0 : Nat) (yN Y) + stS Y (1 : Nat) (yN Y)).toInt = 0 + (stS Y 0 (yN Y)).toInt + (stS Y 1 (yN Y)).toInt := i_add a1 rfl (by omega) (by omega)
  have a3 : (0 + stS Y (0 : Nat) (yN Y) + stS Y (1 : Nat) (yN Y) + stS Y (2 : Nat) (yN Y)).toInt = 0 + (stS Y 0 (yN Y)).toInt + (stS Y 1 (yN Y)).toInt + (stS Y 2 (yN Y)).toInt := i_add a2 rfl (by omega) (by omega)
  have a4 : (0 + stS Y (0 : Nat) (yN Y) + stS Y (1 : Nat) (yN Y) + stS Y (2 : Nat) (yN Y) + stS Y (3 : Nat) (yN Y)).toInt = 0 + (stS Y 0 (yN Y)).toInt + (stS Y 1 (yN Y)).toInt + (stS Y 2 (yN Y)).toInt + (stS Y 3 (yN Y)).toInt := i_add a3 rfl (by omega) (by omega)
  rw [a4]; omega
theorem seated_4 {a : Nat} {Y : zY} {y : Int32} {st : zT2} {h : dH} (H : SC a Y y st h) : ∀ (n : Nat) (v1 v2 : Int32), 0 ≤ v2.toInt → v2.toInt ≤ 4 → v1 = sm4 Y v2.toInt.toNat → Al (l_X3_seated_4 a h (fun v => some v) n v1 v2) (fun r => r = sm4 Y 4)
  | 0, _, _, _, _, _ => al_none
  | n + 1, v1, v2, p0, p1, e => by
    rw [l_X3_seated_4]
    have t := inc1 (v := v2) (by omega)
    have en : (v2 + 1).toInt.toNat = v2.toInt.toNat + 1 := by omega
    refine al_ite (fun c => al_oP (fun r hr => ?_)) (fun c => al_some (by rw [e, show v2.toInt.toNat = 4 by omega]))
    have s := seatsAt_ok H r hr
    rw [if_neg (by omega), show v2.toInt = ((v2.toInt.toNat : Nat) : Int) by omega] at s
    exact seated_4 H n _ _ (by omega) (by omega) (by rw [en, sm4, e, s]; rfl)
theorem seated_ok {a : Nat} {Y : zY} {y : Int32} {st : zT2} {h : dH} (H : SC a Y y st h) (hT : Tr Y) : Al (f_X3_seated a h) (fun r => r = seS Y) := by
  rw [← sm4_ok hT H.2.2.2.1]
  exact seated_4 H _ 0 0 (by decide) (by decide) rfl
end
end

section
/-! bits -/
noncomputable section
def bt (x : Int32) (j : Nat) : Bool := x.toBitVec.getLsbD j
theorem bt_or {x y : Int32} {j : Nat} : bt (x ||| y) j = (bt x j || bt y j) := by
  show (x.toBitVec ||| y.toBitVec).getLsbD j = _
  rw [BitVec.getLsbD_or]; rfl
theorem bt_and {x y : Int32} {j : Nat} : bt (x &&& y) j = (bt x j && bt y j) := by
  show (x.toBitVec &&& y.toBitVec).getLsbD j = _
  rw [BitVec.getLsbD_and]; rfl
theorem bt_xor {x y : Int32} {j : Nat} : bt (x ^^^ y) j = (bt x j ^^ bt y j) := by
  show (x.toBitVec ^^^ y.toBitVec).getLsbD j = _
  rw [BitVec.getLsbD_xor]; rfl
theorem bt_ge {x : Int32} {j : Nat} (h : 32 ≤ j) : bt x j = false := BitVec.getLsbD_of_ge _ _ h
theorem eight {P : Nat → Prop} (h : ∀ i : Fin 8, P i.val) : ∀ j, j < 8 → P j := fun j hj => h ⟨j, hj⟩
theorem bt_one {v : Int32} {j k : Nat} (hv : v.toInt = j) (hj : j < 8) : bt (dshl 1 v) k = decide (k = j) := by
  by_cases hk : k < 32
  · rw [i32_of hv]
    have h : ∀ (j : Fin 8) (k : Fin 32), bt (dshl 1 (Int32.ofNat j.val)) k.val = decide (k.val = j.val) := by decide +kernel
    exact h ⟨j, hj⟩ ⟨k, hk⟩
  · rw [bt_ge (by omega), eq_comm]
    exact decide_eq_false (by omega)
theorem bt_ev {v : Int32} {n k : Nat} (hv : v.toInt = n) (hn : n ≤ 8) : bt (dshl 1 v - 1) k = decide (k < n) := by
  by_cases hk : k < 32
  · rw [i32_of hv]
    have h : ∀ (j : Fin 9) (k : Fin 32), bt (dshl 1 (Int32.ofNat j.val) - 1) k.val = decide (k.val < j.val) := by decide +kernel
    exact h ⟨n, by omega⟩ ⟨k, hk⟩
  · rw [bt_ge (by omega), eq_comm]
    exact decide_eq_false (by omega)
theorem bt_m1 {k : Nat} (hk : k < 32) : bt (-1) k = true := by
  have h : ∀ (k : Fin 32), bt (-1) k.val = true := by decide +kernel
  exact h ⟨k, hk⟩
theorem bt_zero {k : Nat} : bt 0 k = false := by
  by_cases hk : k < 32
  · have h : ∀ (k : Fin 32), bt 0 k.val = false := by decide +kernel
    exact h ⟨k, hk⟩
  · exact bt_ge (by omega)
theorem dshr_bv {x v : Int32} {j : Nat} (hv : v.toInt = j) (hj : j < 8) : (dshr x v).toBitVec = x.toBitVec.sshiftRight j := by
  rw [i32_of hv]
  have : j = 0 ∨ j = 1 ∨ j = 2 ∨ j = 3 ∨ j = 4 ∨ j = 5 ∨ j = 6 ∨ j = 7 := by omega
  rcases this with rfl | rfl | rfl | rfl | rfl | rfl | rfl | rfl <;> rfl
theorem and1_bt {y : Int32} : (y &&& 1).toInt = 1 ↔ bt y 0 = true := by
  have e : (y &&& 1).toBitVec = BitVec.setWidth 32 (BitVec.ofBool (y.toBitVec.getLsbD 0)) := by
    show y.toBitVec &&& 1#32 = _
    exact BitVec.and_one_eq_setWidth_ofBool_getLsbD
  have t : (y &&& 1).toInt = (y &&& 1).toBitVec.toInt := rfl
  rw [t, e]
  unfold bt
  cases y.toBitVec.getLsbD 0 <;> decide
theorem bt_test {x v : Int32} {j : Nat} (hv : v.toInt = j) (hj : j < 8) : ((dshr x v) &&& 1).toInt = 1 ↔ bt x j = true := by
  rw [and1_bt]
  unfold bt
  rw [dshr_bv hv hj, BitVec.getLsbD_sshiftRight]
  rw [if_pos (by omega), Nat.add_zero]
  simp
def cntB (f : Nat → Bool) : Nat → Nat
  | 0 => 0
  | m + 1 => if f m = true then cntB f m + 1 else cntB f m
theorem cntB_congr {f g : Nat → Bool} : ∀ m, (∀ j, j < m → f j = g j) → cntB f m = cntB g m
  | 0, _ => rfl
  | m + 1, h => by rw [cntB, cntB, h m (by omega), cntB_congr m (fun j hj => h j (by omega))]
theorem cntB_le {f : Nat → Bool} : ∀ m, cntB f m ≤ m
  | 0 => Nat.le_refl _
  | m + 1 => by
    have := cntB_le (f := f) m
    rw [cntB]
    split <;> omega
theorem cntB_false {f : Nat → Bool} {n : Nat} : ∀ m, n ≤ m → (∀ j, n ≤ j → j < m → f j = false) → cntB f m = cntB f n
  | 0, h, _ => by rw [show n = 0 by omega]
  | m + 1, h, hf => by
    by_cases e : n = m + 1
    · rw [e]
    · rw [cntB, hf m (by omega) (by omega), if_neg (by decide)]
      exact cntB_false m (by omega) (fun j a b => hf j a (by omega))
/-- fewer places hold before than after -/
theorem cntB_lt {f g : Nat → Bool} {m j : Nat} (hj : j < m) (hfg : ∀ i, i < m → f i = true → g i = true) (h1 : f j = false) (h2 : g j = true) : cntB f m + 1 ≤ cntB g m := by
  have le : ∀ m, (∀ i, i < m → f i = true → g i = true) → cntB f m ≤ cntB g m := by
    intro m
    induction m with
    | zero => intro _; exact Nat.le_refl _
    | succ m ih =>
      intro h
      have := ih (fun i hi => h i (by omega))
      have := h m (by omega)
      rw [cntB, cntB]
      cases hf : f m
      · rw [if_neg (by decide)]; split <;> omega
      · rw [hf] at this
        rw [if_pos rfl, if_pos (this rfl)]; omega
  induction m with
  | zero => omega
  | succ m ih =>
    rw [cntB, cntB]
    by_cases e : j = m
    · subst e
      rw [h1, h2, if_neg (by decide), if_pos rfl]
      have := le j (fun i hi => hfg i (by omega))
      omega
    · have := ih (by omega) (fun i hi => hfg i (by omega))
      have := hfg m (by omega)
      cases hf : f m
      · rw [if_neg (by decide)]; split <;> omega
      · rw [hf] at this
        rw [if_pos rfl, if_pos (this rfl)]; omega
theorem pop8 : ∀ i : Fin 256, ((f_J6_bitCount_0f7a4 (Int32.ofNat i.val)).map Int32.toInt) = some (cntB (bt (Int32.ofNat i.val)) 8 : Int) := by decide +kernel
theorem small_of_bits {x : Int32} (h : ∀ j, 8 ≤ j → bt x j = false) : ∃ i : Fin 256, x = Int32.ofNat i.val := by
  have hx : x.toBitVec = BitVec.ofNat 32 (x.toBitVec.toNat % 256) := by
    apply BitVec.eq_of_getLsbD_eq
    intro i hi
    rw [BitVec.getLsbD_ofNat]
    have e : (x.toBitVec.toNat % 256).testBit i = (decide (i < 8) && x.toBitVec.toNat.testBit i) := by
      rw [show (256 : Nat) = 2 ^ 8 from rfl, Nat.testBit_mod_two_pow]
    rw [e]
    by_cases c : i < 8
    · simp [c, hi, BitVec.getLsbD]
    · have := h i (by omega)
      unfold bt at this
      rw [this]
      simp [c]
  refine ⟨⟨x.toBitVec.toNat % 256, Nat.mod_lt _ (by decide)⟩, ?_⟩
  apply Int32.toBitVec_inj.mp
  exact hx
theorem pop_ok {x : Int32} (h : ∀ j, 8 ≤ j → bt x j = false) : Al (f_J6_bitCount_0f7a4 x) (fun r => r.toInt = cntB (bt x) 8) := by
  obtain ⟨i, rfl⟩ := small_of_bits h
  intro r hr
  have := pop8 i
  rw [hr] at this
  exact Option.some.inj this
end
end

section
/-! ways -/
noncomputable section
/-- there is a way of so many steps -/
def wk (K : Nat → Nat → Bool) (N : Nat) : Nat → Nat → Nat → Prop
  | 0, a, b => a = b
  | n + 1, a, b => ∃ c, c < N ∧ b < N ∧ wk K N n a c ∧ K c b = true
def exI (f : Nat → Bool) : Nat → Bool
  | 0 => false
  | m + 1 => exI f m || f m
theorem exI_iff {f : Nat → Bool} : ∀ m, exI f m = true ↔ ∃ i, i < m ∧ f i = true
  | 0 => by
    rw [exI]
    exact ⟨fun h => absurd h (by decide), fun ⟨i, h, _⟩ => absurd h (by omega)⟩
  | m + 1 => by
    rw [exI, Bool.or_eq_true, exI_iff m]
    constructor
    · intro h
      rcases h with ⟨i, h1, h2⟩ | h
      · exact ⟨i, by omega, h2⟩
      · exact ⟨m, by omega, h⟩
    · intro ⟨i, h1, h2⟩
      by_cases e : i = m
      · rw [e] at h2; exact Or.inr h2
      · exact Or.inl ⟨i, by omega, h2⟩
/-- reached in so many steps at most -/
def rcB (K : Nat → Nat → Bool) (N a : Nat) : Nat → Nat → Bool
  | 0, j => decide (j = a)
  | s + 1, j => rcB K N a s j || exI (fun i => rcB K N a s i && (decide (j < N) && K i j)) N
section GR
variable {K : Nat → Nat → Bool} {N : Nat}
theorem rcB_step {a s j : Nat} : rcB K N a (s + 1) j = true ↔ rcB K N a s j = true ∨ ∃ i, i < N ∧ rcB K N a s i = true ∧ j < N ∧ K i j = true := by
  rw [rcB, Bool.or_eq_true, exI_iff]
  constructor
  · intro h
    rcases h with h | ⟨i, h1, h2⟩
    · exact Or.inl h
    · rw [Bool.and_eq_true, Bool.and_eq_true, decide_eq_true_eq] at h2
      exact Or.inr ⟨i, h1, h2.1, h2.2.1, h2.2.2⟩
  · intro h
    rcases h with h | ⟨i, h1, h2, h3, h4⟩
    · exact Or.inl h
    · refine Or.inr ⟨i, h1, ?_⟩
      rw [Bool.and_eq_true, Bool.and_eq_true, decide_eq_true_eq]
      exact ⟨h2, h3, h4⟩
theorem rcB_lt {a : Nat} (ha : a < N) : ∀ (s j : Nat), rcB K N a s j = true → j < N
  | 0, j, h => by
    rw [rcB, decide_eq_true_eq] at h; omega
  | s + 1, j, h => by
    rcases rcB_step.mp h with h | ⟨i, -, -, h, -⟩
    · exact rcB_lt ha s j h
    · exact h
theorem rcB_mono {a j : Nat} {s t : Nat} (h : s ≤ t) (hr : rcB K N a s j = true) : rcB K N a t j = true := by
  induction h with
  | refl => exact hr
  | step _ ih => exact rcB_step.mpr (Or.inl ih)
theorem rcB_wk {a : Nat} (ha : a < N) : ∀ (s j : Nat), rcB K N a s j = true ↔ ∃ n, n ≤ s ∧ wk K N n a j
  | 0, j => by
    rw [rcB, decide_eq_true_eq]
    constructor
    · intro h; exact ⟨0, Nat.le_refl _, h.symm⟩
    · intro ⟨n, h1, h2⟩
      rw [show n = 0 by omega] at h2
      exact h2.symm
  | s + 1, j => by
    rw [rcB_step]
    constructor
    · intro h
      rcases h with h | ⟨i, h1, h2, h3, h4⟩
      · obtain ⟨n, q1, q2⟩ := (rcB_wk ha s j).mp h
        exact ⟨n, by omega, q2⟩
      · obtain ⟨n, q1, q2⟩ := (rcB_wk ha s i).mp h2
        exact ⟨n + 1, by omega, i, h1, h3, q2, h4⟩
    · intro ⟨n, h1, h2⟩
      match n, h1, h2 with
      | 0, h1, h2 => exact Or.inl ((rcB_wk ha s j).mpr ⟨0, by omega, h2⟩)
      | n + 1, h1, ⟨c, c1, c2, c3, c4⟩ => exact Or.inr ⟨c, c1, (rcB_wk ha s c).mpr ⟨n, by omega, c3⟩, c2, c4⟩
/-- what no longer grows -/
def stab (K : Nat → Nat → Bool) (N a t : Nat) : Prop := ∀ j, j < N → rcB K N a (t + 1) j = rcB K N a t j
theorem stab_all {a t : Nat} (ha : a < N) (h : stab K N a t) : ∀ m, ∀ j, rcB K N a (t + m) j = true → rcB K N a t j = true
  | 0, j, hj => hj
  | m + 1, j, hj => by
    rcases rcB_step.mp hj with q | ⟨i, q1, q2, q3, q4⟩
    · exact stab_all ha h m j q
    · rw [← h j q3]
      exact rcB_step.mpr (Or.inr ⟨i, q1, stab_all ha h m i q2, q3, q4⟩)
theorem grow {a : Nat} (ha : a < N) : ∀ s, (∃ t, t < s ∧ stab K N a t) ∨ s + 1 ≤ cntB (rcB K N a s) N
  | 0 => by
    right
    have : cntB (fun _ => false) N + 1 ≤ cntB (rcB K N a 0) N := cntB_lt (f := fun _ => false) (g := rcB K N a 0) ha (fun _ _ h => by cases h) rfl (by rw [rcB]; exact decide_eq_true rfl)
    omega
  | s + 1 => by
    rcases grow ha s with ⟨t, h1, h2⟩ | h
    · exact Or.inl ⟨t, by omega, h2⟩
    · by_cases c : stab K N a s
      · exact Or.inl ⟨s, by omega, c⟩
      · right
        obtain ⟨j, hj⟩ := Classical.not_forall.mp c
        obtain ⟨hj1, hj2⟩ := Classical.not_imp.mp hj
        have hf : rcB K N a s j = false := by
          cases e : rcB K N a s j with
          | false => rfl
          | true => exact absurd ((rcB_step.mpr (Or.inl e)).trans e.symm) hj2
        have hg : rcB K N a (s + 1) j = true := by
          cases e : rcB K N a (s + 1) j with
          | true => rfl
          | false => exact absurd (e.trans hf.symm) hj2
        have := cntB_lt (f := rcB K N a s) (g := rcB K N a (s + 1)) hj1 (fun i _ hi => rcB_step.mpr (Or.inl hi)) hf hg
        omega
theorem rc_all {a : Nat} (ha : a < N) (hN : N ≤ 8) {n j : Nat} (h : wk K N n a j) : rcB K N a 7 j = true := by
  have hr : rcB K N a (n + 8) j = true := (rcB_wk ha _ j).mpr ⟨n, by omega, h⟩
  rcases grow (K := K) ha 8 with ⟨t, h1, h2⟩ | h1
  · have := stab_all ha h2 (n + 8 - t) j (by rw [show t + (n + 8 - t) = n + 8 by omega]; exact hr)
    exact rcB_mono (by omega) this
  · have := cntB_le (f := rcB K N a 8) N
    omega
/-- how far it is -/
def isD (K : Nat → Nat → Bool) (N a b : Nat) (r : Int) : Prop := (r = -1 ∧ ∀ n, ¬ wk K N n a b) ∨ ∃ n : Nat, r = n ∧ wk K N n a b ∧ ∀ m, m < n → ¬ wk K N m a b
theorem isD.uniq {a b : Nat} {r s : Int} (h1 : isD K N a b r) (h2 : isD K N a b s) : r = s := by
  rcases h1 with ⟨e1, q1⟩ | ⟨n, e1, q1, p1⟩ <;> rcases h2 with ⟨e2, q2⟩ | ⟨m, e2, q2, p2⟩
  · omega
  · exact absurd q2 (q1 m)
  · exact absurd q1 (q2 n)
  · rcases Nat.lt_trichotomy n m with h | h | h
    · exact absurd q1 (p2 n h)
    · omega
    · exact absurd q2 (p1 m h)
theorem wk_cons {a c : Nat} (ha : a < N) (hc : c < N) (hK : K a c = true) : ∀ (n b : Nat), wk K N n c b → wk K N (n + 1) a b
  | 0, b, h => by
    have h' : c = b := h
    subst h'
    exact ⟨a, ha, hc, rfl, hK⟩
  | n + 1, b, ⟨d, d1, d2, d3, d4⟩ => ⟨d, d1, d2, wk_cons ha hc hK n d d3, d4⟩
theorem wk_sym (hS : ∀ i j, i < N → j < N → K i j = true → K j i = true) : ∀ (n a b : Nat), a < N → wk K N n a b → wk K N n b a
  | 0, a, b, _, h => Eq.symm h
  | n + 1, a, b, ha, ⟨c, c1, c2, c3, c4⟩ => wk_cons c2 c1 (hS c b c1 c2 c4) n a (wk_sym hS n a c ha c3)
theorem wk_lt : ∀ {n a b : Nat}, a < N → wk K N n a b → b < N
  | 0, a, b, ha, h => by have h' : a = b := h; omega
  | n + 1, a, b, _, ⟨c, c1, c2, _⟩ => c2
theorem wk_trans {a b : Nat} : ∀ (m n c : Nat), wk K N n a b → wk K N m b c → wk K N (n + m) a c
  | 0, n, c, h, h2 => by
    have h' : b = c := h2
    rw [← h']; exact h
  | m + 1, n, c, h, ⟨d, d1, d2, d3, d4⟩ => ⟨d, d1, d2, wk_trans m n d h d3, d4⟩
theorem isD_sym (hS : ∀ i j, i < N → j < N → K i j = true → K j i = true) {a b : Nat} (ha : a < N) (hb : b < N) {r : Int} (h : isD K N a b r) : isD K N b a r := by
  rcases h with ⟨e, q⟩ | ⟨n, e, q, p⟩
  · exact Or.inl ⟨e, fun n z => q n (wk_sym hS n b a hb z)⟩
  · exact Or.inr ⟨n, e, wk_sym hS n a b ha q, fun m hm z => p m hm (wk_sym hS m b a hb z)⟩
theorem isD_self {a : Nat} : isD K N a a 0 := Or.inr ⟨0, rfl, rfl, fun m hm => absurd hm (by omega)⟩
theorem wk_congr {L : Nat → Nat → Bool} (h : ∀ i j, i < N → j < N → K i j = L i j) : ∀ (n a b : Nat), wk K N n a b ↔ wk L N n a b
  | 0, a, b => Iff.rfl
  | n + 1, a, b => by
    constructor
    · intro ⟨c, c1, c2, c3, c4⟩
      exact ⟨c, c1, c2, (wk_congr h n a c).mp c3, by rw [← h c b c1 c2]; exact c4⟩
    · intro ⟨c, c1, c2, c3, c4⟩
      exact ⟨c, c1, c2, (wk_congr h n a c).mpr c3, by rw [h c b c1 c2]; exact c4⟩
/-! the reference's: by ones more and more between -/
def fwI (K : Nat → Nat → Bool) (a b : Nat) : Int := if a = b then 0 else if K a b = true then 1 else -1
def fwS (k : Nat) (W : Nat → Nat → Int) (a b : Nat) : Int := if ¬ W a k = -1 ∧ ¬ W k b = -1 ∧ (W a b = -1 ∨ W a k + W k b < W a b) then W a k + W k b else W a b
def fw (K : Nat → Nat → Bool) : Nat → Nat → Nat → Int
  | 0 => fwI K
  | k + 1 => fwS k (fw K k)
/-- a way with no others between but those below k -/
def wkI (K : Nat → Nat → Bool) (k : Nat) : Nat → Nat → Nat → Prop
  | 0, a, b => a = b
  | n + 1, a, b => ∃ c, wkI K k n a c ∧ K c b = true ∧ (n = 0 ∨ c < k)
theorem wkI_cut {k : Nat} : ∀ (n a b : Nat), wkI K (k + 1) n a b → wkI K k n a b ∨ ∃ n1 n2, n1 + n2 ≤ n ∧ wkI K k n1 a k ∧ wkI K k n2 k b
  | 0, a, b, h => Or.inl h
  | n + 1, a, b, ⟨c, c1, c2, c3⟩ => by
    by_cases hn : n = 0
    · subst hn
      exact Or.inl ⟨c, c1, c2, Or.inl rfl⟩
    · by_cases hc : c = k
      · subst hc
        rcases wkI_cut n a c c1 with q | ⟨n1, n2, q1, q2, -⟩
        · exact Or.inr ⟨n, 1, Nat.le_refl _, q, ⟨c, rfl, c2, Or.inl rfl⟩⟩
        · exact Or.inr ⟨n1, 1, by omega, q2, ⟨c, rfl, c2, Or.inl rfl⟩⟩
      · rcases wkI_cut n a c c1 with q | ⟨n1, n2, q1, q2, q3⟩
        · exact Or.inl ⟨c, q, c2, Or.inr (by omega)⟩
        · exact Or.inr ⟨n1, n2 + 1, by omega, q2, ⟨c, q3, c2, Or.inr (by omega)⟩⟩
theorem fw_rng : ∀ (k a b : Nat), fw K k a b = -1 ∨ (0 ≤ fw K k a b ∧ fw K k a b ≤ 2 ^ k)
  | 0, a, b => by
    show fwI K a b = -1 ∨ (0 ≤ fwI K a b ∧ fwI K a b ≤ 2 ^ 0)
    unfold fwI
    by_cases h : a = b
    · rw [if_pos h]; exact Or.inr (by decide)
    · rw [if_neg h]
      by_cases h2 : K a b = true
      · rw [if_pos h2]; exact Or.inr (by decide)
      · rw [if_neg h2]; exact Or.inl rfl
  | k + 1, a, b => by
    have h1 := fw_rng k a b
    have h2 := fw_rng k a k
    have h3 := fw_rng k k b
    show fwS k (fw K k) a b = -1 ∨ (0 ≤ fwS k (fw K k) a b ∧ fwS k (fw K k) a b ≤ 2 ^ (k + 1))
    unfold fwS
    rw [Int.pow_succ]
    by_cases c : ¬ fw K k a k = -1 ∧ ¬ fw K k k b = -1 ∧ (fw K k a b = -1 ∨ fw K k a k + fw K k k b < fw K k a b)
    · rw [if_pos c]; omega
    · rw [if_neg c]; omega
theorem fw_self : ∀ (k a : Nat), fw K k a a = 0
  | 0, a => by
    show fwI K a a = 0
    exact if_pos rfl
  | k + 1, a => by
    have h0 := fw_self k a
    have h2 := fw_rng (K := K) k a k
    have h3 := fw_rng (K := K) k k a
    show fwS k (fw K k) a a = 0
    unfold fwS
    rw [if_neg (by omega)]
    exact h0
theorem fw_sound {N : Nat} : ∀ (k a b : Nat), k ≤ N → a < N → b < N → fw K k a b = -1 ∨ ∃ n : Nat, fw K k a b = n ∧ wk K N n a b
  | 0, a, b, _, ha, hb => by
    show fwI K a b = -1 ∨ ∃ n : Nat, fwI K a b = n ∧ wk K N n a b
    unfold fwI
    by_cases h : a = b
    · rw [if_pos h]; exact Or.inr ⟨0, rfl, h⟩
    · rw [if_neg h]
      by_cases h2 : K a b = true
      · rw [if_pos h2]; exact Or.inr ⟨1, rfl, a, ha, hb, rfl, h2⟩
      · rw [if_neg h2]; exact Or.inl rfl
  | k + 1, a, b, hk, ha, hb => by
    have h1 := fw_sound k a b (by omega) ha hb
    show fwS k (fw K k) a b = -1 ∨ ∃ n : Nat, fwS k (fw K k) a b = n ∧ wk K N n a b
    unfold fwS
    by_cases c : ¬ fw K k a k = -1 ∧ ¬ fw K k k b = -1 ∧ (fw K k a b = -1 ∨ fw K k a k + fw K k k b < fw K k a b)
    · rw [if_pos c]
      rcases fw_sound k a k (by omega) ha (by omega) with q | ⟨n1, q1, q2⟩
      · exact absurd q c.1
      · rcases fw_sound k k b (by omega) (by omega) hb with p | ⟨n2, p1, p2⟩
        · exact absurd p c.2.1
        · exact Or.inr ⟨n1 + n2, by rw [q1, p1]; rfl, wk_trans n2 n1 b q2 p2⟩
    · rw [if_neg c]; exact h1
theorem fw_compl : ∀ (k n a b : Nat), wkI K k n a b → ¬ fw K k a b = -1 ∧ fw K k a b ≤ n
  | 0, 0, a, b, h => by
    have h' : a = b := h
    have e : fw K 0 a b = 0 := if_pos h'
    rw [e]; exact ⟨by decide, by decide⟩
  | 0, n + 1, a, b, ⟨c, c1, c2, c3⟩ => by
    have hn : n = 0 := by omega
    subst hn
    have c1' : a = c := c1
    subst c1'
    show ¬ fwI K a b = -1 ∧ fwI K a b ≤ ((0 + 1 : Nat) : Int)
    unfold fwI
    by_cases h : a = b
    · rw [if_pos h]; exact ⟨by decide, by decide⟩
    · rw [if_neg h, if_pos c2]; exact ⟨by decide, by decide⟩
  | k + 1, n, a, b, h => by
    have r1 := fw_rng (K := K) k a b
    have r2 := fw_rng (K := K) k a k
    have r3 := fw_rng (K := K) k k b
    show ¬ fwS k (fw K k) a b = -1 ∧ fwS k (fw K k) a b ≤ n
    unfold fwS
    rcases wkI_cut n a b h with q | ⟨n1, n2, q1, q2, q3⟩
    · have := fw_compl k n a b q
      by_cases c : ¬ fw K k a k = -1 ∧ ¬ fw K k k b = -1 ∧ (fw K k a b = -1 ∨ fw K k a k + fw K k k b < fw K k a b)
      · rw [if_pos c]; omega
      · rw [if_neg c]; omega
    · have p1 := fw_compl k n1 a k q2
      have p2 := fw_compl k n2 k b q3
      by_cases c : ¬ fw K k a k = -1 ∧ ¬ fw K k k b = -1 ∧ (fw K k a b = -1 ∨ fw K k a k + fw K k k b < fw K k a b)
      · rw [if_pos c]; omega
      · rw [if_neg c]; omega
theorem wk_I {a : Nat} (ha : a < N) : ∀ (n b : Nat), wk K N n a b → wkI K N n a b
  | 0, b, h => h
  | n + 1, b, ⟨c, c1, c2, c3, c4⟩ => ⟨c, wk_I ha n c c3, c4, Or.inr c1⟩
theorem fw_isD {a b : Nat} (ha : a < N) (hb : b < N) : isD K N a b (fw K N a b) := by
  rcases fw_sound (K := K) N a b (Nat.le_refl _) ha hb with q | ⟨n, q1, q2⟩
  · exact Or.inl ⟨q, fun n z => (fw_compl N n a b (wk_I ha n b z)).1 q⟩
  · refine Or.inr ⟨n, q1, q2, fun m hm z => ?_⟩
    have := (fw_compl N m a b (wk_I ha m b z)).2
    omega
end GR
end
end

section
/-! the class's circle -/
noncomputable section
theorem knows_same {a : Nat} (ha : zS a) {g h : dH} (e : ∀ b k, (a ≤ b ∧ b ≤ a + 12) → g b k = h b k) {v1 v2 : Int32} : f_X3_knows a v1 v2 g = f_X3_knows a v1 v2 h := by
  unfold f_X3_knows
  rw [e a 1 (by omega)]
  by_cases c : 0 ≤ v1.toInt ∧ v1.toInt < 8
  · rw [if_pos c, if_pos c, e (a + 5 + v1.toInt.toNat) _ (by omega)]
  · rw [if_neg c, if_neg c]
theorem KnC.same {K : Nat → Nat → Bool} {N a : Nat} (ha : zS a) {g h : dH} (q : KnC K N a h) (e : ∀ b k, (a ≤ b ∧ b ≤ a + 12) → g b k = h b k) : KnC K N a g := by
  intro v1 v2 i j h1 h2 hi hj
  rw [knows_same ha e]
  exact q v1 v2 i j h1 h2 hi hj
def CQ (K : Nat → Nat → Bool) (N : Nat) (h : dH) : Prop := (h 7 0).toInt = N ∧ N ≤ 8 ∧ ∀ i, i < N → ∀ j, bt (h 8 i) j = (decide (j < N) && K i j)
/-- all but the circle -/
def oFr (g h : dH) : Prop := ∀ b k, ¬ b = 7 → ¬ b = 8 → g b k = h b k
theorem oFr.trans {f g h : dH} (q : oFr f g) (r : oFr g h) : oFr f h := fun b k x y => (q b k x y).trans (r b k x y)
section CI
variable {K : Nat → Nat → Bool} {N a : Nat}
theorem see_27 (ha : zS a) {h0 : dH} (hK : KnC K N a h0) (hN8 : N ≤ 8) {v2 : Int32} {i : Nat} (h2 : v2.toInt = i) (hi : i < N) {k : dH → Option dH} {P : dH → Prop} {h1 : dH} (Kk : ∀ g, oFr g h0 → (g 7 0).toInt = N → (∀ m, ¬ m = i → g 8 m = h1 8 m) → (∀ j, bt (g 8 i) j = (decide (j < N) && K i j)) → Al (k g) P) : ∀ (n : Nat) (v3 : Int32) (h : dH), 0 ≤ v3.toInt → v3.toInt ≤ N → oFr h h0 → (h 7 0).toInt = N → (∀ m, ¬ m = i → h 8 m = h1 8 m) → (∀ j, bt (h 8 i) j = (decide (j < v3.toInt.toNat) && K i j)) → Al (l_X0_see_27 a v2 k n v3 h) P
  | 0, _, _, _, _, _, _, _, _ => al_none
  | n + 1, v3, h, p0, p1, F, h7, hm, hb => by
    have z := zS_or ha
    rw [l_X0_see_27, h7]
    have t := inc1 (v := v3) (by omega)
    have en : (v3 + 1).toInt.toNat = v3.toInt.toNat + 1 := by omega
    have e2 : v2.toInt.toNat = i := by omega
    rw [e2]
    refine al_ite (fun c => al_oP (fun r hr => ?_)) (fun c => ?_)
    · have q := (hK.same ha (fun b k q => F b k (by omega) (by omega))) v2 v3 i v3.toInt.toNat h2 (by omega) hi (by omega) r hr
      refine al_ite (fun z0 => see_27 ha hK hN8 h2 hi Kk n (v3 + 1) h (by omega) (by omega) F h7 hm (fun j => ?_)) (fun z0 => al_ite (fun _ => al_ite (fun _ => al_oH' (fun g hg => see_27 ha hK hN8 h2 hi Kk n (v3 + 1) g (by omega) (by omega) (fun b k x y => by rw [hg, dU_ne (by omega)]; exact F b k x y) (by rw [hg, dU_ne (by omega)]; exact h7) (fun m hmi => by rw [hg, dU_ne (by omega)]; exact hm m hmi) (fun j => ?_))) (fun _ => al_none)) (fun _ => al_none))
      · rw [hb j, en]
        by_cases e : j = v3.toInt.toNat
        · rw [e, decide_eq_false (by omega), Bool.false_and]
          have : K i v3.toInt.toNat = false := by
            rcases q with q | q
            · omega
            · exact q.2
          rw [this, Bool.and_false]
        · rw [show decide (j < v3.toInt.toNat + 1) = decide (j < v3.toInt.toNat) by rw [decide_eq_decide]; omega]
      · rw [hg, dU_eq, bt_or, hb j, bt_one (j := v3.toInt.toNat) (by omega) (by omega), en]
        by_cases e : j = v3.toInt.toNat
        · rw [e, decide_eq_true rfl, Bool.or_true, decide_eq_true (by omega), q.yes z0]
          rfl
        · rw [decide_eq_false e, Bool.or_false, show decide (j < v3.toInt.toNat + 1) = decide (j < v3.toInt.toNat) by rw [decide_eq_decide]; omega]
    · rw [show v3.toInt.toNat = N by omega] at hb
      exact Kk h F h7 hm hb
theorem see_10 (ha : zS a) {h0 : dH} (hK : KnC K N a h0) (hN8 : N ≤ 8) : ∀ (n : Nat) (v2 : Int32) (h : dH), 0 ≤ v2.toInt → v2.toInt ≤ N → oFr h h0 → (h 7 0).toInt = N → (∀ i, i < v2.toInt.toNat → ∀ j, bt (h 8 i) j = (decide (j < N) && K i j)) → Al (l_X0_see_10 a (fun g => some g) n v2 h) (fun g => CQ K N g ∧ oFr g h0)
  | 0, _, _, _, _, _, _, _ => al_none
  | n + 1, v2, h, p0, p1, F, h7, hb => by
    rw [l_X0_see_10, h7]
    have t := inc1 (v := v2) (by omega)
    have en : (v2 + 1).toInt.toNat = v2.toInt.toNat + 1 := by omega
    refine al_ite (fun c => al_ite (fun _ => al_oH' (fun g4 hg => ?_)) (fun _ => al_none)) (fun c => al_some ⟨⟨h7, hN8, fun i hi => hb i (by omega)⟩, F⟩)
    refine see_27 ha hK hN8 (i := v2.toInt.toNat) (by omega) (by omega) (h1 := g4) (fun g x1 x2 x3 x4 => ?_) fuel0 0 g4 (by decide) (by rw [ti0]; omega) (fun b k x y => by rw [hg, dU_ne (by omega)]; exact F b k x y) (by rw [hg, dU_ne (by omega)]; exact h7) (fun _ _ => rfl) (fun j => by rw [hg, dU_eq, bt_zero, ti0]; rfl)
    refine see_10 ha hK hN8 n (v2 + 1) g (by omega) (by omega) x1 x2 (fun i hi j => ?_)
    by_cases e : i = v2.toInt.toNat
    · rw [e]; exact x4 j
    · rw [x3 i e, hg, dU_ne (by omega)]
      exact hb i (by omega) j
theorem see_ok (ha : zS a) {h : dH} (hK : KnC K N a h) (hN : (h a 2).toInt = N) (hN8 : N ≤ 8) : Al (f_X0_see a h) (fun g => CQ K N g ∧ oFr g h) := by
  unfold f_X0_see
  refine al_oH' (fun g hg => ?_)
  have F : oFr g h := fun b k x y => by rw [hg, dU_ne (by omega)]
  exact see_10 ha hK hN8 _ 0 g (by decide) (by rw [ti0]; omega) F (by rw [hg, dU_eq]; exact hN) (fun i hi => absurd hi (by rw [ti0]; omega))
theorem everyone_ok {h : dH} (C : CQ K N h) : Al (f_X0_everyone h) (fun r => ∀ k, bt r k = decide (k < N)) := by
  unfold f_X0_everyone
  exact al_some (fun k => bt_ev C.1 C.2.1)
theorem further_4 {h : dH} (C : CQ K N h) {v1 : Int32} : ∀ (n : Nat) (v2 v3 : Int32), 0 ≤ v3.toInt → v3.toInt ≤ N → (∀ m, bt v2 m = (bt v1 m || exI (fun i => bt v1 i && (decide (m < N) && K i m)) v3.toInt.toNat)) → Al (l_X0_further_4 v1 h (fun v => some v) n v2 v3) (fun r => ∀ m, bt r m = (bt v1 m || exI (fun i => bt v1 i && (decide (m < N) && K i m)) N))
  | 0, _, _, _, _, _ => al_none
  | n + 1, v2, v3, p0, p1, hb => by
    obtain ⟨C1, C2, C3⟩ := id C
    rw [l_X0_further_4, C1]
    have t := inc1 (v := v3) (by omega)
    have en : (v3 + 1).toInt.toNat = v3.toInt.toNat + 1 := by omega
    refine al_ite (fun c => al_ite (fun z => al_ite (fun _ => further_4 C n _ (v3 + 1) (by omega) (by omega) (fun m => ?_)) (fun _ => al_none)) (fun z => further_4 C n _ (v3 + 1) (by omega) (by omega) (fun m => ?_))) (fun c => al_some (fun m => by rw [hb m, show v3.toInt.toNat = N by omega]))
    · have z' := (bt_test (j := v3.toInt.toNat) (by omega) (by omega)).mp z
      rw [bt_or, hb m, en, exI, z', Bool.true_and, C3 _ (by omega) m, Bool.or_assoc]
    · have z' : bt v1 v3.toInt.toNat = false := by
        cases e : bt v1 v3.toInt.toNat with
        | false => rfl
        | true => exact absurd ((bt_test (j := v3.toInt.toNat) (by omega) (by omega)).mpr e) z
      rw [hb m, en, exI, z', Bool.false_and, Bool.or_false]
theorem further_ok {h : dH} (C : CQ K N h) {v1 : Int32} : Al (f_X0_further v1 h) (fun r => ∀ m, bt r m = (bt v1 m || exI (fun i => bt v1 i && (decide (m < N) && K i m)) N)) :=
  further_4 C _ v1 0 (by decide) (by rw [ti0]; omega) (fun m => by rw [ti0]; show _ = (_ || false); rw [Bool.or_false])
/-- who knows whom among some -/
def kMem (K : Nat → Nat → Bool) (mem : Nat → Bool) (i j : Nat) : Bool := K i j && (mem i && mem j)
theorem rc_mem {mem : Nat → Bool} {a : Nat} (hm : mem a = true) : ∀ (s j : Nat), rcB (kMem K mem) N a s j = true → mem j = true
  | 0, j, h => by
    rw [rcB, decide_eq_true_eq] at h
    rw [h]; exact hm
  | s + 1, j, h => by
    rcases rcB_step.mp h with h | ⟨i, -, -, -, h⟩
    · exact rc_mem hm s j h
    · unfold kMem at h
      rw [Bool.and_eq_true, Bool.and_eq_true] at h
      exact h.2.2
theorem company_7 {h : dH} (C : CQ K N h) {mem : Nat → Bool} {v2 : Int32} (hv : ∀ m, bt v2 m = mem m) {a : Nat} (ha : a < N) (hm : mem a = true) : ∀ (n : Nat) (v3 v4 : Int32), 0 ≤ v4.toInt → v4.toInt ≤ 8 → (∀ m, bt v3 m = rcB (kMem K mem) N a v4.toInt.toNat m) → Al (l_X0_companyOf_7 v2 h (fun v => some v) n v3 v4) (fun r => ∀ m, bt r m = rcB (kMem K mem) N a 8 m)
  | 0, _, _, _, _, _ => al_none
  | n + 1, v3, v4, p0, p1, hb => by
    rw [l_X0_companyOf_7]
    have t := inc1 (v := v4) (by omega)
    have en : (v4 + 1).toInt.toNat = v4.toInt.toNat + 1 := by omega
    refine al_ite (fun c => al_oP (fun r3 hr => company_7 C hv ha hm n _ (v4 + 1) (by omega) (by omega) (fun m => ?_))) (fun c => al_some (fun m => by rw [hb m, show v4.toInt.toNat = 8 by omega]))
    rw [bt_and, further_ok C r3 hr m, hv m, en]
    apply Bool.eq_iff_iff.mpr
    rw [rcB_step, Bool.and_eq_true, Bool.or_eq_true, exI_iff]
    constructor
    · intro ⟨h1, h2⟩
      rcases h1 with h1 | ⟨i, i1, i2⟩
      · exact Or.inl (by rw [← hb m]; exact h1)
      · rw [Bool.and_eq_true, Bool.and_eq_true, decide_eq_true_eq, hb i] at i2
        refine Or.inr ⟨i, i1, i2.1, i2.2.1, ?_⟩
        unfold kMem
        rw [i2.2.2, rc_mem hm _ i i2.1, h2]
        rfl
    · intro h1
      rcases h1 with h1 | ⟨i, i1, i2, i3, i4⟩
      · exact ⟨Or.inl (by rw [hb m]; exact h1), rc_mem hm _ m h1⟩
      · unfold kMem at i4
        rw [Bool.and_eq_true, Bool.and_eq_true] at i4
        refine ⟨Or.inr ⟨i, i1, ?_⟩, i4.2.2⟩
        rw [Bool.and_eq_true, Bool.and_eq_true, decide_eq_true_eq, hb i]
        exact ⟨i2, i3, i4.1⟩
/-- the company of one among some -/
theorem company_ok {h : dH} (C : CQ K N h) {mem : Nat → Bool} {v1 v2 : Int32} (hv : ∀ m, bt v2 m = mem m) {a : Nat} (h1 : v1.toInt = a) (ha : a < N) (hm : mem a = true) : Al (f_X0_companyOf v1 v2 h) (fun r => ∀ m, bt r m = rcB (kMem K mem) N a 8 m) := by
  have := C.2.1
  exact company_7 C hv ha hm _ _ 0 (by decide) (by decide) (fun m => by rw [bt_one h1 (by omega), ti0]; rfl)
theorem con_iff (hN : N ≤ 8) {a j : Nat} (ha : a < N) : rcB K N a 8 j = true ↔ ∃ n, wk K N n a j := by
  constructor
  · intro h
    obtain ⟨n, -, q⟩ := (rcB_wk ha 8 j).mp h
    exact ⟨n, q⟩
  · intro ⟨n, q⟩
    exact rcB_mono (by omega) (rc_all ha hN q)
theorem fw_con {a j : Nat} (ha : a < N) (hj : j < N) : ¬ fw K N a j = -1 ↔ ∃ n, wk K N n a j := by
  rcases fw_isD (K := K) ha hj with ⟨e, q⟩ | ⟨n, e, q, -⟩
  · exact ⟨fun z => absurd e z, fun ⟨n, z⟩ => absurd z (q n)⟩
  · exact ⟨fun _ => ⟨n, q⟩, fun _ => by omega⟩
/-- the first of its company -/
def isF (K : Nat → Nat → Bool) (N : Nat) (mem : Nat → Bool) (i : Nat) : Bool := mem i && !exI (fun b => mem b && decide (¬ fw (kMem K mem) N b i = -1)) i
theorem kMem_sym {mem : Nat → Bool} (hS : ∀ i j, i < N → j < N → K i j = true → K j i = true) : ∀ i j, i < N → j < N → kMem K mem i j = true → kMem K mem j i = true := by
  intro i j hi hj h
  unfold kMem at h ⊢
  rw [Bool.and_eq_true, Bool.and_eq_true] at h ⊢
  exact ⟨hS i j hi hj h.1, h.2.2, h.2.1⟩
theorem companies_7 {h : dH} (C : CQ K N h) (hS : ∀ i j, i < N → j < N → K i j = true → K j i = true) {mem : Nat → Bool} {v1 : Int32} (hv : ∀ m, bt v1 m = mem m) : ∀ (n : Nat) (v2 v3 v4 : Int32), 0 ≤ v4.toInt → v4.toInt ≤ N → v2 = cnt32 (isF K N mem) v4.toInt.toNat → (∀ m, m < N → (bt v3 m = true ↔ mem m = true ∧ ∀ b, b < v4.toInt.toNat → mem b = true → ¬ ∃ s, wk (kMem K mem) N s b m)) → Al (l_X0_companies_7 v1 h (fun v => some v) n v2 v3 v4) (fun r => r = cnt32 (isF K N mem) N)
  | 0, _, _, _, _, _, _, _ => al_none
  | n + 1, v2, v3, v4, p0, p1, e, hb => by
    obtain ⟨C1, C2, C3⟩ := id C
    rw [l_X0_companies_7, C1]
    have t := inc1 (v := v4) (by omega)
    obtain ⟨i, hi⟩ : ∃ i, v4.toInt.toNat = i := ⟨_, rfl⟩
    have hi' : v4.toInt = i := by omega
    have en : (v4 + 1).toInt.toNat = i + 1 := by omega
    rw [hi] at e hb
    refine al_ite (fun c => ?_) (fun c => al_some (by rw [e, show i = N by omega]))
    have hiN : i < N := by omega
    have test := bt_test (x := v3) hi' (by omega)
    have fI : isF K N mem i = true ↔ bt v3 i = true := by
      rw [hb i hiN]
      unfold isF
      rw [Bool.and_eq_true, Bool.not_eq_true', ← Bool.not_eq_true, exI_iff]
      constructor
      · intro ⟨h1, h2⟩
        refine ⟨h1, fun b hbi hmb hw => h2 ⟨b, hbi, ?_⟩⟩
        rw [Bool.and_eq_true, decide_eq_true_eq]
        exact ⟨hmb, (fw_con (by omega) hiN).mpr hw⟩
      · intro ⟨h1, h2⟩
        refine ⟨h1, fun ⟨b, hbi, hq⟩ => ?_⟩
        rw [Bool.and_eq_true, decide_eq_true_eq] at hq
        exact h2 b hbi hq.1 ((fw_con (by omega) hiN).mp hq.2)
    refine al_ite (fun z => al_oP (fun r5 hr => ?_)) (fun z => ?_)
    · have z' := test.mp z
      have hmi : mem i = true := ((hb i hiN).mp z').1
      have hc := company_ok C hv hi' hiN hmi r5 hr
      refine companies_7 C hS hv n _ _ (v4 + 1) (by omega) (by omega) (by rw [en, cnt32, if_pos (fI.mpr z'), e]) (fun m hmN => ?_)
      rw [bt_and, bt_xor, bt_m1 (show m < 32 by omega), hc m, Bool.and_eq_true, hb m hmN, en]
      have hx : (rcB (kMem K mem) N i 8 m ^^ true) = true ↔ ¬ ∃ s, wk (kMem K mem) N s i m := by
        rw [← con_iff C2 hiN]
        cases rcB (kMem K mem) N i 8 m <;> decide
      rw [hx]
      constructor
      · intro ⟨⟨h1, h2⟩, h3⟩
        refine ⟨h1, fun b hb1 hb2 => ?_⟩
        by_cases eb : b = i
        · rw [eb]; exact h3
        · exact h2 b (by omega) hb2
      · intro ⟨h1, h2⟩
        exact ⟨⟨h1, fun b hb1 hb2 => h2 b (by omega) hb2⟩, h2 i (by omega) hmi⟩
    · have z' : ¬ bt v3 i = true := fun q => z (test.mpr q)
      refine companies_7 C hS hv n _ _ (v4 + 1) (by omega) (by omega) (by rw [en, cnt32, if_neg (fun q => z' (fI.mp q)), e]) (fun m hmN => ?_)
      rw [hb m hmN, en]
      constructor
      · intro ⟨h1, h2⟩
        refine ⟨h1, fun b hb1 hb2 hw => ?_⟩
        by_cases eb : b = i
        · subst eb
          refine z' ((hb b hiN).mpr ⟨hb2, fun d hd1 hd2 hw2 => h2 d hd1 hd2 ?_⟩)
          obtain ⟨s1, w1⟩ := hw2
          obtain ⟨s2, w2⟩ := hw
          exact ⟨s1 + s2, wk_trans s2 s1 m w1 w2⟩
        · exact h2 b (by omega) hb2 hw
      · intro ⟨h1, h2⟩
        exact ⟨h1, fun b hb1 hb2 => h2 b (by omega) hb2⟩
theorem companies_ok {h : dH} (C : CQ K N h) (hS : ∀ i j, i < N → j < N → K i j = true → K j i = true) {mem : Nat → Bool} {v1 : Int32} (hv : ∀ m, bt v1 m = mem m) : Al (f_X0_companies v1 h) (fun r => r = cnt32 (isF K N mem) N) :=
  companies_7 C hS hv _ 0 v1 0 (by decide) (by rw [ti0]; omega) rfl (fun m _ => by
    rw [hv m, ti0]
    exact ⟨fun q => ⟨q, fun b hb => absurd hb (Nat.not_lt_zero b)⟩, fun q => q.1⟩)
end CI
end
end

section
/-! the class's circle: the largest company, how far, the longest way; two turned -/
noncomputable section
def mxN (f : Nat → Nat) : Nat → Nat
  | 0 => 0
  | m + 1 => if mxN f m < f m then f m else mxN f m
/-- how many are in one's company -/
def cmS (K : Nat → Nat → Bool) (N a : Nat) : Nat := cntB (fun b => decide (¬ fw K N a b = -1)) N
def memN (N : Nat) : Nat → Bool := fun j => decide (j < N)
section CI
variable {K : Nat → Nat → Bool} {N a : Nat}
theorem kMem_N {i j : Nat} (hi : i < N) (hj : j < N) : kMem K (memN N) i j = K i j := by
  unfold kMem memN
  rw [decide_eq_true hi, decide_eq_true hj, Bool.and_self, Bool.and_true]
theorem con_fw (hN : N ≤ 8) {a j : Nat} (ha : a < N) (hj : j < N) : rcB (kMem K (memN N)) N a 8 j = decide (¬ fw K N a j = -1) := by
  apply Bool.eq_iff_iff.mpr
  rw [con_iff hN ha, decide_eq_true_eq, fw_con ha hj]
  constructor
  · intro ⟨n, h⟩
    exact ⟨n, (wk_congr (fun i j hi hj => kMem_N hi hj) n a j).mp h⟩
  · intro ⟨n, h⟩
    exact ⟨n, (wk_congr (fun i j hi hj => kMem_N hi hj) n a j).mpr h⟩
theorem largest_4 {h : dH} (C : CQ K N h) : ∀ (n : Nat) (v1 v2 : Int32), 0 ≤ v2.toInt → v2.toInt ≤ N → v1.toInt = mxN (cmS K N) v2.toInt.toNat → Al (l_X0_largestCompany_4 h (fun v => some v) n v1 v2) (fun r => r.toInt = mxN (cmS K N) N)
  | 0, _, _, _, _, _ => al_none
  | n + 1, v1, v2, p0, p1, e => by
    obtain ⟨C1, C2, C3⟩ := id C
    rw [l_X0_largestCompany_4, C1]
    have t := inc1 (v := v2) (by omega)
    obtain ⟨i, hi⟩ : ∃ i, v2.toInt.toNat = i := ⟨_, rfl⟩
    have en : (v2 + 1).toInt.toNat = i + 1 := by omega
    rw [hi] at e
    refine al_ite (fun c => al_oP (fun r3 h3 => al_oP (fun r4 h4 => al_oP (fun r5 h5 => ?_)))) (fun c => al_some (by rw [e, show i = N by omega]))
    have hiN : i < N := by omega
    have ev := everyone_ok C r3 h3
    have hc := company_ok C (mem := memN N) ev (show v2.toInt = i by omega) hiN (decide_eq_true hiN) r4 h4
    have hz : ∀ j, N ≤ j → bt r4 j = false := fun j hj => by
      rw [hc j]
      cases q : rcB (kMem K (memN N)) N i 8 j with
      | false => rfl
      | true => exact absurd (rcB_lt hiN 8 j q) (by omega)
    have hp := pop_ok (fun j hj => hz j (by omega)) r5 h5
    have hcm : cntB (bt r4) 8 = cmS K N i := by
      unfold cmS
      rw [cntB_false 8 C2 (fun j h1 _ => hz j h1)]
      exact cntB_congr N (fun j hj => (hc j).trans (con_fw C2 hiN hj))
    rw [hcm] at hp
    have dm := dmax_ok v1 r5
    refine largest_4 C n _ (v2 + 1) (by omega) (by omega) ?_
    rw [en, mxN]
    split <;> omega
theorem largest_ok {h : dH} (C : CQ K N h) : Al (f_X0_largestCompany h) (fun r => r.toInt = mxN (cmS K N) N) :=
  largest_4 C _ 0 0 (by decide) (by rw [ti0]; omega) rfl
theorem distance_7 {h : dH} (C : CQ K N h) {a b : Nat} (ha : a < N) (hb : b < N) {v2 : Int32} (h2 : v2.toInt = b) : ∀ (n : Nat) (v3 v4 : Int32), 0 ≤ v4.toInt → v4.toInt ≤ 8 → (∀ m, bt v3 m = rcB K N a v4.toInt.toNat m) → (∀ t, t < v4.toInt.toNat → rcB K N a t b = false) → Al (l_X0_distance_7 v2 h (some (-1)) n v3 v4) (fun r => isD K N a b r.toInt)
  | 0, _, _, _, _, _, _ => al_none
  | n + 1, v3, v4, p0, p1, hv, hn => by
    obtain ⟨C1, C2, C3⟩ := id C
    rw [l_X0_distance_7]
    have t := inc1 (v := v4) (by omega)
    obtain ⟨i, hi⟩ : ∃ i, v4.toInt.toNat = i := ⟨_, rfl⟩
    have en : (v4 + 1).toInt.toNat = i + 1 := by omega
    rw [hi] at hv hn
    have test := bt_test (x := v3) h2 (by omega)
    rw [hv b] at test
    refine al_ite (fun c => al_ite (fun z => al_some ?_) (fun z => al_oP (fun r5 h5 => ?_))) (fun c => al_some ?_)
    · obtain ⟨m, m1, m2⟩ := (rcB_wk ha i b).mp (test.mp z)
      have nw : ∀ t, t < i → ¬ wk K N t a b := fun t ht q => by
        have := (rcB_wk (K := K) ha t b).mpr ⟨t, Nat.le_refl _, q⟩
        rw [hn t ht] at this
        cases this
      have em : m = i := by
        rcases Nat.lt_or_ge m i with q | q
        · exact absurd m2 (nw m q)
        · omega
      subst em
      exact Or.inr ⟨m, by omega, m2, nw⟩
    · refine distance_7 C ha hb h2 n r5 (v4 + 1) (by omega) (by omega) (fun m => ?_) (fun t ht => ?_)
      · rw [further_ok C r5 h5 m, en, rcB, hv m]
        congr 2
        funext j
        rw [hv j]
      · by_cases e : t = i
        · rw [e]
          cases q : rcB K N a i b with
          | false => rfl
          | true => exact absurd (test.mpr q) z
        · exact hn t (by omega)
    · refine Or.inl ⟨by decide, fun m q => ?_⟩
      have := rc_all ha C2 q
      rw [hn 7 (by omega)] at this
      cases this
theorem distance_ok {h : dH} (C : CQ K N h) {a b : Nat} (ha : a < N) (hb : b < N) {v1 v2 : Int32} (h1 : v1.toInt = a) (h2 : v2.toInt = b) : Al (f_X0_distance v1 v2 h) (fun r => r.toInt = fw K N a b) := by
  have := C.2.1
  refine al_mono (distance_7 C ha hb h2 _ _ 0 (by decide) (by decide) (fun m => by rw [bt_one h1 (by omega), ti0]; rfl) (fun t ht => absurd ht (by rw [ti0]; exact Nat.not_lt_zero t))) (fun r hr => ?_)
  exact hr.uniq (fw_isD ha hb)
/-- a way's length, or so much, where there is none -/
def vlS (K : Nat → Nat → Bool) (N : Nat) (w : Int) (i j : Nat) : Int := if fw K N i j = -1 then w else fw K N i j
/-- the largest of all twos' -/
def isMx (val : Nat → Nat → Int) (N : Nat) (M : Int) : Prop := (∀ i j, i < j → j < N → val i j ≤ M) ∧ 0 ≤ M ∧ (M = 0 ∨ ∃ i j, i < j ∧ j < N ∧ val i j = M)
theorem isMx.uniq {val : Nat → Nat → Int} {M L : Int} (h1 : isMx val N M) (h2 : isMx val N L) : M = L := by
  obtain ⟨a1, a2, a3⟩ := h1
  obtain ⟨b1, b2, b3⟩ := h2
  have x : M ≤ L := by
    rcases a3 with q | ⟨i, j, q1, q2, q3⟩
    · omega
    · have := b1 i j q1 q2; omega
  have y : L ≤ M := by
    rcases b3 with q | ⟨i, j, q1, q2, q3⟩
    · omega
    · have := a1 i j q1 q2; omega
  omega
theorem longest_17 {h : dH} (C : CQ K N h) {v1 v3 : Int32} {i : Nat} (h3 : v3.toInt = i) (hi : i < N) {k : Int32 → Option Int32} {P : Int32 → Prop} {m0 : Int} (Kk : ∀ v : Int32, m0 ≤ v.toInt → (v.toInt = m0 ∨ ∃ j, i < j ∧ j < N ∧ vlS K N v1.toInt i j = v.toInt) → (∀ j, i < j → j < N → vlS K N v1.toInt i j ≤ v.toInt) → Al (k v) P) : ∀ (n : Nat) (v2 v4 : Int32), i < v4.toInt → v4.toInt ≤ N → m0 ≤ v2.toInt → (v2.toInt = m0 ∨ ∃ j, i < j ∧ j < N ∧ vlS K N v1.toInt i j = v2.toInt) → (∀ j, i < j → j < v4.toInt.toNat → vlS K N v1.toInt i j ≤ v2.toInt) → Al (l_X0_longestWay_17 v1 v3 h k n v2 v4) P
  | 0, _, _, _, _, _, _, _ => al_none
  | n + 1, v2, v4, p0, p1, hm, ho, hb => by
    obtain ⟨C1, C2, C3⟩ := id C
    rw [l_X0_longestWay_17, C1]
    have t := inc1 (v := v4) (by omega)
    obtain ⟨j, hj⟩ : ∃ j, v4.toInt.toNat = j := ⟨_, rfl⟩
    have en : (v4 + 1).toInt.toNat = j + 1 := by omega
    rw [hj] at hb
    refine al_ite (fun c => al_oP (fun r5 h5 => ?_)) (fun c => Kk v2 hm ho (fun q h1 h2 => hb q h1 (by omega)))
    have hd := distance_ok C hi (show j < N by omega) h3 (show v4.toInt = j by omega) r5 h5
    have go : ∀ x : Int32, x.toInt = vlS K N v1.toInt i j → Al (l_X0_longestWay_17 v1 v3 h k n (dmax v2 x) (v4 + 1)) P := by
      intro x hx
      have dm := dmax_ok v2 x
      refine longest_17 C h3 hi Kk n _ (v4 + 1) (by omega) (by omega) (by omega) ?_ (fun q h1 h2 => ?_)
      · rcases dm.2.2 with q | q
        · rcases ho with o | ⟨j', o1, o2, o3⟩
          · exact Or.inl (by omega)
          · exact Or.inr ⟨j', o1, o2, by omega⟩
        · exact Or.inr ⟨j, by omega, by omega, by omega⟩
      · by_cases e : q = j
        · rw [e]; omega
        · have := hb q h1 (by omega); omega
    refine al_ite (fun z => go v1 ?_) (fun z => go r5 ?_)
    · unfold vlS; rw [if_pos (by omega)]
    · unfold vlS; rw [if_neg (by omega)]; exact hd
theorem longest_4 {h : dH} (C : CQ K N h) {v1 : Int32} : ∀ (n : Nat) (v2 v3 : Int32), 0 ≤ v3.toInt → v3.toInt ≤ N → 0 ≤ v2.toInt → (v2.toInt = 0 ∨ ∃ i j, i < j ∧ j < N ∧ vlS K N v1.toInt i j = v2.toInt) → (∀ i j, i < v3.toInt.toNat → i < j → j < N → vlS K N v1.toInt i j ≤ v2.toInt) → Al (l_X0_longestWay_4 v1 h (fun v => some v) n v2 v3) (fun r => isMx (vlS K N v1.toInt) N r.toInt)
  | 0, _, _, _, _, _, _, _ => al_none
  | n + 1, v2, v3, p0, p1, hm, ho, hb => by
    obtain ⟨C1, C2, C3⟩ := id C
    rw [l_X0_longestWay_4, C1]
    have t := inc1 (v := v3) (by omega)
    obtain ⟨i, hi⟩ : ∃ i, v3.toInt.toNat = i := ⟨_, rfl⟩
    have en : (v3 + 1).toInt.toNat = i + 1 := by omega
    rw [hi] at hb
    refine al_ite (fun c => ?_) (fun c => al_some ⟨fun a b h1 h2 => hb a b (by omega) h1 h2, hm, ho⟩)
    refine longest_17 C (i := i) (by omega) (by omega) (m0 := v2.toInt) (fun v q1 q2 q3 => ?_) fuel0 v2 (v3 + 1) (by omega) (by omega) (Int.le_refl _) (Or.inl rfl) (fun j h1 h2 => absurd h2 (by omega))
    refine longest_4 C n v (v3 + 1) (by omega) (by omega) (by omega) ?_ (fun a b h1 h2 h3 => ?_)
    · rcases q2 with q2 | ⟨j, j1, j2, j3⟩
      · rcases ho with o | ⟨a, b, o1, o2, o3⟩
        · exact Or.inl (by omega)
        · exact Or.inr ⟨a, b, o1, o2, by omega⟩
      · exact Or.inr ⟨i, j, j1, j2, j3⟩
    · by_cases e : a = i
      · rw [e]; exact q3 b (by omega) h3
      · have := hb a b (by omega) h2 h3; omega
theorem longest_ok {h : dH} (C : CQ K N h) {v1 : Int32} : Al (f_X0_longestWay v1 h) (fun r => isMx (vlS K N v1.toInt) N r.toInt) :=
  longest_4 C _ 0 0 (by decide) (by rw [ti0]; omega) (by decide) (Or.inl ti0) (fun i j h => absurd h (by rw [ti0]; exact Nat.not_lt_zero i))
/-- two turned -/
def tnK (K : Nat → Nat → Bool) (p q a b : Nat) : Bool := K a b ^^ decide ((a = p ∧ b = q) ∨ (a = q ∧ b = p))
theorem turn_ok {h : dH} (C : CQ K N h) {p q : Nat} (hp : p < N) (hq : q < N) (hpq : ¬ p = q) {v1 v2 : Int32} (h1 : v1.toInt = p) (h2 : v2.toInt = q) : Al (f_X0_turn v1 v2 h) (fun g => CQ (tnK K p q) N g ∧ oFr g h) := by
  obtain ⟨C1, C2, C3⟩ := id C
  have e1 : v1.toInt.toNat = p := by omega
  have e2 : v2.toInt.toNat = q := by omega
  unfold f_X0_turn
  rw [e1, e2]
  refine al_ite (fun _ => al_ite (fun _ => al_oH' (fun g2 q2 => al_ite (fun _ => al_ite (fun _ => al_oH' (fun g hg => al_some ⟨⟨?_, C2, fun i hi j => ?_⟩, fun b k x y => ?_⟩)) (fun _ => al_none)) (fun _ => al_none))) (fun _ => al_none)) (fun _ => al_none)
  · rw [hg, dU_ne (by omega), q2, dU_ne (by omega)]; exact C1
  · have key : ∀ x : Int32, bt x j = (decide (j < N) && K i j) → ∀ (r : Nat) (hr : r < N) (w : Int32), w.toInt = r → bt (x ^^^ dshl 1 w) j = (decide (j < N) && (K i j ^^ decide (j = r))) := by
      intro x hx r hr w hw
      rw [bt_xor, hx, bt_one hw (by omega)]
      by_cases hj : j < N
      · rw [decide_eq_true hj, Bool.true_and, Bool.true_and]
      · rw [decide_eq_false hj, Bool.false_and, Bool.false_and, decide_eq_false (by omega)]; rfl
    unfold tnK
    by_cases ep : i = p
    · subst ep
      rw [hg, dU_ne (by omega), q2, dU_eq, key _ (C3 i hi j) q hq v2 h2]
      congr 2
      rw [decide_eq_decide]; omega
    · by_cases eq : i = q
      · subst eq
        rw [hg, dU_eq, q2, dU_ne (by omega), key _ (C3 i hi j) p hp v1 h1]
        congr 2
        rw [decide_eq_decide]; omega
      · rw [hg, dU_ne (by omega), q2, dU_ne (by omega), C3 i hi j]
        congr 1
        rw [decide_eq_false (by omega), Bool.xor_false]
  · rw [hg, dU_ne (by omega), q2, dU_ne (by omega)]
theorem tnK_two {p q a b : Nat} : tnK (tnK K p q) p q a b = K a b := by
  unfold tnK
  rw [Bool.xor_assoc, Bool.xor_self, Bool.xor_false]
theorem CQ.congr {L : Nat → Nat → Bool} {h : dH} (C : CQ K N h) (e : ∀ i j, i < N → j < N → K i j = L i j) : CQ L N h := by
  refine ⟨C.1, C.2.1, fun i hi j => ?_⟩
  rw [C.2.2 i hi j]
  by_cases hj : j < N
  · rw [e i j hi hj]
  · rw [decide_eq_false hj, Bool.false_and, Bool.false_and]
end CI
end
end

section
/-! the reference's ways -/
noncomputable section
theorem mknows_same {g h : dH} (e : ∀ a k, ¬ a = 8 → g a k = h a k) {v1 v2 : Int32} : f_X7_knows v1 v2 g = f_X7_knows v1 v2 h := by
  unfold f_X7_knows f_X7_strengthOf
  rw [e 0 29 (by omega), e 0 30 (by omega), e 0 31 (by omega), e 0 8 (by omega), e 7 _ (by omega)]
theorem KnM.same {K : Nat → Nat → Bool} {N : Nat} {g h : dH} (q : KnM K N h) (e : ∀ a k, ¬ a = 8 → g a k = h a k) : KnM K N g := by
  intro v1 v2 i j h1 h2 hi hj
  rw [mknows_same e]
  exact q v1 v2 i j h1 h2 hi hj
/-- all but the ways -/
def vFr (g h : dH) : Prop := ∀ a k, ¬ a = 8 → g a k = h a k
theorem vFr.trans {f g h : dH} (q : vFr f g) (r : vFr g h) : vFr f h := fun b k x => (q b k x).trans (r b k x)
/-- the ways as a table tells, up to a place; behind it as another one -/
def wT (W V : Nat → Nat → Int) (N a b : Nat) (g : dH) : Prop := ∀ i j, i < N → j < N → (g 8 (8 * i + j)).toInt = if i < a ∨ (i = a ∧ j < b) then W i j else V i j
theorem wT.next {W V : Nat → Nat → Int} {N a b : Nat} {g h : dH} (q : wT W V N a b h) (hb : b < N) (hN : N ≤ 8) (he : ∀ k, ¬ k = 8 * a + b → g 8 k = h 8 k) (hv : (g 8 (8 * a + b)).toInt = W a b) : wT W V N a (b + 1) g := by
  intro i j hi hj
  by_cases c : i = a ∧ j = b
  · rw [c.1, c.2, hv, if_pos (by omega)]
  · rw [he _ (by omega), q i j hi hj]
    by_cases d : i < a ∨ (i = a ∧ j < b)
    · rw [if_pos d, if_pos (by omega)]
    · rw [if_neg d, if_neg (by omega)]
theorem wT.row {W V : Nat → Nat → Int} {N a : Nat} {g : dH} (q : wT W V N a N g) : wT W V N (a + 1) 0 g := by
  intro i j hi hj
  rw [q i j hi hj]
  by_cases d : i < a ∨ (i = a ∧ j < N)
  · rw [if_pos d, if_pos (by omega)]
  · rw [if_neg d, if_neg (by omega)]
theorem wT.all {W V : Nat → Nat → Int} {N : Nat} {g : dH} (q : wT W V N N 0 g) (V' : Nat → Nat → Int) : wT V' W N 0 0 g := by
  intro i j hi hj
  rw [q i j hi hj, if_pos (by omega), if_neg (by omega)]
section WA
variable {K : Nat → Nat → Bool} {N : Nat} {h0 : dH} {k : dH → Option dH} {P : dH → Prop}
theorem ways_12 (hK : KnM K N h0) (hN : (h0 0 13).toInt = N) (hN8 : N ≤ 8) {v1 : Int32} {a : Nat} (h1 : v1.toInt = a) (ha : a < N) {V : Nat → Nat → Int} (Kk : ∀ g, vFr g h0 → wT (fwI K) V N a N g → Al (k g) P) : ∀ (n : Nat) (v2 : Int32) (h : dH), 0 ≤ v2.toInt → v2.toInt ≤ N → vFr h h0 → wT (fwI K) V N a v2.toInt.toNat h → Al (l_X7_waysAll_12 v1 k n v2 h) P
  | 0, _, _, _, _, _, _ => al_none
  | n + 1, v2, h, p0, p1, F, W => by
    rw [l_X7_waysAll_12, F 0 13 (by omega), hN]
    have t := inc1 (v := v2) (by omega)
    obtain ⟨b, hb⟩ : ∃ b, v2.toInt.toNat = b := ⟨_, rfl⟩
    have en : (v2 + 1).toInt.toNat = b + 1 := by omega
    rw [hb] at W
    refine al_ite (fun c => ?_) (fun c => ?_)
    · have hbN : b < N := by omega
      have h2 : v2.toInt = b := by omega
      obtain ⟨-, ix⟩ := ix8 h1 h2 (by omega) (by omega)
      rw [ix]
      have go : ∀ (x : Int32) (g : dH), g = dU h 8 (8 * a + b) x → x.toInt = fwI K a b → Al (l_X7_waysAll_12 v1 k n (v2 + 1) g) P := by
        intro x g hg hx
        refine ways_12 hK hN hN8 h1 ha Kk n (v2 + 1) g (by omega) (by omega) (fun a k q => by rw [hg, dU_ne (by omega)]; exact F a k q) ?_
        rw [en]
        exact W.next hbN hN8 (fun k hk => by rw [hg, dU_ne (by omega)]) (by rw [hg, dU_eq]; exact hx)
      refine al_ite (fun z => al_ite (fun _ => al_oH' (fun g hg => go 0 g hg ?_)) (fun _ => al_none)) (fun z => al_oP (fun r9 hr => ?_))
      · unfold fwI; rw [if_pos (by omega)]; exact ti0
      · have q := (hK.same F) v1 v2 a b h1 h2 ha hbN r9 hr
        refine al_ite (fun z0 => al_ite (fun _ => al_oH' (fun g hg => go (-1) g hg ?_)) (fun _ => al_none)) (fun z0 => al_ite (fun _ => al_oH' (fun g hg => go 1 g hg ?_)) (fun _ => al_none))
        · unfold fwI; rw [if_neg (by omega), if_neg (q.no z0)]; decide
        · unfold fwI; rw [if_neg (by omega), if_pos (q.yes z0)]; exact ti1
    · rw [show b = N by omega] at W
      exact Kk h F W
theorem ways_2 (hK : KnM K N h0) (hN : (h0 0 13).toInt = N) (hN8 : N ≤ 8) {V : Nat → Nat → Int} (Kk : ∀ g, vFr g h0 → wT (fwI K) V N N 0 g → Al (k g) P) : ∀ (n : Nat) (v1 : Int32) (h : dH), 0 ≤ v1.toInt → v1.toInt ≤ N → vFr h h0 → wT (fwI K) V N v1.toInt.toNat 0 h → Al (l_X7_waysAll_2 k n v1 h) P
  | 0, _, _, _, _, _, _ => al_none
  | n + 1, v1, h, p0, p1, F, W => by
    rw [l_X7_waysAll_2, F 0 13 (by omega), hN]
    have t := inc1 (v := v1) (by omega)
    have en : (v1 + 1).toInt.toNat = v1.toInt.toNat + 1 := by omega
    refine al_ite (fun c => ?_) (fun c => ?_)
    · refine ways_12 hK hN hN8 (a := v1.toInt.toNat) (by omega) (by omega) (V := V) (fun g x1 x2 => ?_) fuel0 0 h (by decide) (by rw [ti0]; omega) F (by rw [ti0]; exact W)
      exact ways_2 hK hN hN8 Kk n (v1 + 1) g (by omega) (by omega) x1 (by rw [en]; exact x2.row)
    · rw [show v1.toInt.toNat = N by omega] at W
      exact Kk h F W
theorem pow8 {c : Nat} (h : c ≤ 8) : (2 : Int) ^ c ≤ 256 := by
  have : c = 0 ∨ c = 1 ∨ c = 2 ∨ c = 3 ∨ c = 4 ∨ c = 5 ∨ c = 6 ∨ c = 7 ∨ c = 8 := by omega
  rcases this with rfl | rfl | rfl | rfl | rfl | rfl | rfl | rfl | rfl <;> decide
/-- through c itself nothing is nearer to c -/
theorem fw_col {c a : Nat} : fw K (c + 1) a c = fw K c a c := by
  have h0 := fw_self (K := K) c c
  show fwS c (fw K c) a c = _
  unfold fwS
  rw [if_neg (by omega)]
theorem fw_row {c b : Nat} : fw K (c + 1) c b = fw K c c b := by
  have h0 := fw_self (K := K) c c
  show fwS c (fw K c) c b = _
  unfold fwS
  rw [if_neg (by omega)]
theorem ways_88 (hN : (h0 0 13).toInt = N) (hN8 : N ≤ 8) {v1 v2 : Int32} {c a : Nat} (h1 : v1.toInt = c) (hc : c < N) (h2 : v2.toInt = a) (ha : a < N) (Kk : ∀ g, vFr g h0 → wT (fw K (c + 1)) (fw K c) N a N g → Al (k g) P) : ∀ (n : Nat) (v3 : Int32) (h : dH), 0 ≤ v3.toInt → v3.toInt ≤ N → vFr h h0 → wT (fw K (c + 1)) (fw K c) N a v3.toInt.toNat h → Al (l_X7_waysAll_88 v1 v2 k n v3 h) P
  | 0, _, _, _, _, _, _ => al_none
  | n + 1, v3, h, p0, p1, F, W => by
    rw [l_X7_waysAll_88, F 0 13 (by omega), hN]
    have t := inc1 (v := v3) (by omega)
    obtain ⟨b, hb⟩ : ∃ b, v3.toInt.toNat = b := ⟨_, rfl⟩
    have en : (v3 + 1).toInt.toNat = b + 1 := by omega
    rw [hb] at W
    refine al_ite (fun cc => ?_) (fun cc => ?_)
    · have hbN : b < N := by omega
      have h3 : v3.toInt = b := by omega
      obtain ⟨-, i1⟩ := ix8 h2 h1 (by omega) (by omega)
      obtain ⟨-, i2⟩ := ix8 h1 h3 (by omega) (by omega)
      obtain ⟨-, i3⟩ := ix8 h2 h3 (by omega) (by omega)
      rw [i1, i2, i3]
      have w1 : (h 8 (8 * a + c)).toInt = fw K c a c := by
        rw [W a c ha hc]
        split
        · exact fw_col
        · rfl
      have w2 : (h 8 (8 * c + b)).toInt = fw K c c b := by
        rw [W c b hc hbN]
        split
        · exact fw_row
        · rfl
      have w3 : (h 8 (8 * a + b)).toInt = fw K c a b := by
        rw [W a b ha hbN, if_neg (by omega)]
      have r1 := fw_rng (K := K) c a c
      have r2 := fw_rng (K := K) c c b
      have p8 := pow8 (c := c) (by omega)
      have sm : (h 8 (8 * a + c) + h 8 (8 * c + b)).toInt = fw K c a c + fw K c c b := i_add w1 w2 (by omega) (by omega)
      have stay : fw K (c + 1) a b = fw K c a b → Al (l_X7_waysAll_88 v1 v2 k n (v3 + 1) h) P := fun e => ways_88 hN hN8 h1 hc h2 ha Kk n (v3 + 1) h (by omega) (by omega) F (by rw [en]; exact W.next hbN hN8 (fun _ _ => rfl) (by rw [w3, e]))
      have go : fw K (c + 1) a b = fw K c a c + fw K c c b → ∀ g, g = dU h 8 (8 * a + b) (h 8 (8 * a + c) + h 8 (8 * c + b)) → Al (l_X7_waysAll_88 v1 v2 k n (v3 + 1) g) P := fun e g hg => ways_88 hN hN8 h1 hc h2 ha Kk n (v3 + 1) g (by omega) (by omega) (fun a k q => by rw [hg, dU_ne (by omega)]; exact F a k q) (by rw [en]; exact W.next hbN hN8 (fun k hk => by rw [hg, dU_ne (by omega)]) (by rw [hg, dU_eq, sm, e]))
      have ef : fw K (c + 1) a b = if ¬ fw K c a c = -1 ∧ ¬ fw K c c b = -1 ∧ (fw K c a b = -1 ∨ fw K c a c + fw K c c b < fw K c a b) then fw K c a c + fw K c c b else fw K c a b := rfl
      refine al_ite (fun _ => al_ite (fun _ => al_ite (fun _ => al_ite (fun z1 => stay ?_) (fun z1 => al_ite (fun z2 => stay ?_) (fun z2 => al_ite (fun z3 => al_ite (fun _ => al_oH' (fun g hg => go ?_ g hg)) (fun _ => al_none)) (fun z3 => al_ite (fun z4 => al_ite (fun _ => al_oH' (fun g hg => go ?_ g hg)) (fun _ => al_none)) (fun z4 => stay ?_))))) (fun _ => al_none)) (fun _ => al_none)) (fun _ => al_none)
      · rw [ef, if_neg (by omega)]
      · rw [ef, if_neg (by omega)]
      · rw [ef, if_pos (by omega)]
      · rw [ef, if_pos (by omega)]
      · rw [ef, if_neg (by omega)]
    · rw [show b = N by omega] at W
      exact Kk h F W
theorem ways_78 (hN : (h0 0 13).toInt = N) (hN8 : N ≤ 8) {v1 : Int32} {c : Nat} (h1 : v1.toInt = c) (hc : c < N) (Kk : ∀ g, vFr g h0 → wT (fw K (c + 1)) (fw K c) N N 0 g → Al (k g) P) : ∀ (n : Nat) (v2 : Int32) (h : dH), 0 ≤ v2.toInt → v2.toInt ≤ N → vFr h h0 → wT (fw K (c + 1)) (fw K c) N v2.toInt.toNat 0 h → Al (l_X7_waysAll_78 v1 k n v2 h) P
  | 0, _, _, _, _, _, _ => al_none
  | n + 1, v2, h, p0, p1, F, W => by
    rw [l_X7_waysAll_78, F 0 13 (by omega), hN]
    have t := inc1 (v := v2) (by omega)
    have en : (v2 + 1).toInt.toNat = v2.toInt.toNat + 1 := by omega
    refine al_ite (fun cc => ?_) (fun cc => ?_)
    · refine ways_88 (K := K) hN hN8 h1 hc (a := v2.toInt.toNat) (by omega) (by omega) (fun g x1 x2 => ?_) fuel0 0 h (by decide) (by rw [ti0]; omega) F (by rw [ti0]; exact W)
      exact ways_78 hN hN8 h1 hc Kk n (v2 + 1) g (by omega) (by omega) x1 (by rw [en]; exact x2.row)
    · rw [show v2.toInt.toNat = N by omega] at W
      exact Kk h F W
theorem ways_68 (hN : (h0 0 13).toInt = N) (hN8 : N ≤ 8) (Kk : ∀ g, vFr g h0 → (∀ i j, i < N → j < N → (g 8 (8 * i + j)).toInt = fw K N i j) → Al (k g) P) : ∀ (n : Nat) (v1 : Int32) (h : dH), 0 ≤ v1.toInt → v1.toInt ≤ N → vFr h h0 → (∀ i j, i < N → j < N → (h 8 (8 * i + j)).toInt = fw K v1.toInt.toNat i j) → Al (l_X7_waysAll_68 k n v1 h) P
  | 0, _, _, _, _, _, _ => al_none
  | n + 1, v1, h, p0, p1, F, W => by
    rw [l_X7_waysAll_68, F 0 13 (by omega), hN]
    have t := inc1 (v := v1) (by omega)
    have en : (v1 + 1).toInt.toNat = v1.toInt.toNat + 1 := by omega
    refine al_ite (fun cc => ?_) (fun cc => ?_)
    · refine ways_78 (K := K) hN hN8 (c := v1.toInt.toNat) (by omega) (by omega) (fun g x1 x2 => ?_) fuel0 0 h (by decide) (by rw [ti0]; omega) F (fun i j hi hj => by rw [W i j hi hj, ti0, if_neg (fun q => q.elim (fun q => absurd q (Nat.not_lt_zero i)) (fun q => absurd q.2 (Nat.not_lt_zero j)))])
      exact ways_68 hN hN8 Kk n (v1 + 1) g (by omega) (by omega) x1 (fun i j hi hj => by rw [x2 i j hi hj, if_pos (Or.inl hi), en])
    · rw [show v1.toInt.toNat = N by omega] at W
      exact Kk h F W
end WA
/-- the ways stand there -/
def WQ (K : Nat → Nat → Bool) (N : Nat) (h : dH) : Prop := (h 0 13).toInt = N ∧ N ≤ 8 ∧ ∀ i j, i < N → j < N → (h 8 (8 * i + j)).toInt = fw K N i j
theorem waysAll_ok {K : Nat → Nat → Bool} {N : Nat} {h : dH} (hK : KnM K N h) (hN : (h 0 13).toInt = N) (hN8 : N ≤ 8) : Al (f_X7_waysAll h) (fun g => WQ K N g ∧ vFr g h) := by
  unfold f_X7_waysAll
  refine ways_2 hK hN hN8 (V := fun i j => (h 8 (8 * i + j)).toInt) (fun g x1 x2 => ?_) _ 0 h (by decide) (by rw [ti0]; omega) (fun _ _ _ => rfl) (fun i j _ _ => by rw [ti0, if_neg (fun q => q.elim (fun q => absurd q (Nat.not_lt_zero i)) (fun q => absurd q.2 (Nat.not_lt_zero j)))])
  refine ways_68 (K := K) (h0 := h) hN hN8 (fun g' y1 y2 => al_some ⟨⟨by rw [y1 0 13 (by omega)]; exact hN, hN8, y2⟩, y1⟩) _ 0 g (by decide) (by rw [ti0]; omega) x1 (fun i j hi hj => ?_)
  rw [x2 i j hi hj, if_pos (Or.inl hi), ti0]
  rfl
end
end

section
/-! the reference's companies, longest way; both alike -/
noncomputable section
section WB
variable {K : Nat → Nat → Bool} {N : Nat} {h : dH}
theorem mcomp_29 (W : WQ K N h) {v2 : Int32} {a : Nat} (h2 : v2.toInt = a) (ha : a < N) {b0 : Bool} {k : Int32 → Option Int32} {P : Int32 → Prop} (Kk : ∀ v, isB v (b0 && !exI (fun b => decide (¬ fw K N a b = -1)) a) → Al (k v) P) : ∀ (n : Nat) (v3 v4 : Int32), 0 ≤ v4.toInt → v4.toInt ≤ a → isB v3 (b0 && !exI (fun b => decide (¬ fw K N a b = -1)) v4.toInt.toNat) → Al (l_X7_companies_29 v2 h k n v3 v4) P
  | 0, _, _, _, _, _ => al_none
  | n + 1, v3, v4, p0, p1, hb => by
    obtain ⟨W1, W2, W3⟩ := id W
    rw [l_X7_companies_29, h2]
    have t := inc1 (v := v4) (by omega)
    obtain ⟨b, hbb⟩ : ∃ b, v4.toInt.toNat = b := ⟨_, rfl⟩
    have en : (v4 + 1).toInt.toNat = b + 1 := by omega
    rw [hbb] at hb
    refine al_ite (fun c => ?_) (fun c => Kk v3 (by rw [show b = a by omega] at hb; exact hb))
    have go : ∀ x : Int32, isB x (b0 && !exI (fun b => decide (¬ fw K N a b = -1)) (b + 1)) → Al (l_X7_companies_29 v2 h k n x (v4 + 1)) P := fun x hx => mcomp_29 W h2 ha Kk n x (v4 + 1) (by omega) (by omega) (by rw [en]; exact hx)
    obtain ⟨-, ix⟩ := ix8 h2 (show v4.toInt = b by omega) (by omega) (by omega)
    rw [ix]
    refine al_ite (fun z => go 0 (Or.inr ⟨ti0, ?_⟩)) (fun z => al_ite (fun _ => al_ite (fun q => go 1 (Or.inl ⟨ti1, ?_⟩)) (fun q => go 0 (Or.inr ⟨ti0, ?_⟩))) (fun _ => al_none))
    · have hf := hb.no z
      rw [exI]
      cases hb0 : b0 with
      | false => rfl
      | true =>
        rw [hb0] at hf
        cases he : exI (fun b => decide (¬ fw K N a b = -1)) b with
        | true => rfl
        | false => rw [he] at hf; exact absurd rfl hf
    · have ht := hb.yes z
      rw [W3 a b ha (by omega)] at q
      rw [exI, decide_eq_false (fun w => w q), Bool.or_false]
      exact ht
    · rw [W3 a b ha (by omega)] at q
      rw [exI, decide_eq_true q, Bool.or_true, Bool.not_true, Bool.and_false]
def isFm (K : Nat → Nat → Bool) (N : Nat) (gn : Int) (a : Nat) : Bool := decide (¬ (a : Int) = gn) && !exI (fun b => decide (¬ fw K N a b = -1)) a
theorem mcomp_4 (W : WQ K N h) {gn : Int} (hg : (h 0 31).toInt = gn) : ∀ (n : Nat) (v1 v2 : Int32), 0 ≤ v2.toInt → v2.toInt ≤ N → v1 = cnt32 (isFm K N gn) v2.toInt.toNat → Al (l_X7_companies_4 h (fun v => some v) n v1 v2) (fun r => r = cnt32 (isFm K N gn) N)
  | 0, _, _, _, _, _ => al_none
  | n + 1, v1, v2, p0, p1, e => by
    obtain ⟨W1, W2, W3⟩ := id W
    rw [l_X7_companies_4, W1, hg]
    have t := inc1 (v := v2) (by omega)
    obtain ⟨a, ha⟩ : ∃ a, v2.toInt.toNat = a := ⟨_, rfl⟩
    have en : (v2 + 1).toInt.toNat = a + 1 := by omega
    have h2 : v2.toInt = a := by omega
    rw [ha] at e
    refine al_ite (fun c => ?_) (fun c => al_some (by rw [e, show a = N by omega]))
    have fin : ∀ (b0 : Bool), b0 = decide (¬ (a : Int) = gn) → ∀ v : Int32, isB v (b0 && !exI (fun b => decide (¬ fw K N a b = -1)) a) → Al (if v.toInt = 0 then (l_X7_companies_4 h (fun v => some v) n (v1 + 0) (v2 + 1)) else (l_X7_companies_4 h (fun v => some v) n (v1 + 1) (v2 + 1))) (fun r => r = cnt32 (isFm K N gn) N) := by
      intro b0 hb0 v hv
      have hv' : isB v (isFm K N gn a) := by unfold isFm; rw [← hb0]; exact hv
      refine al_ite (fun z => mcomp_4 W hg n _ (v2 + 1) (by omega) (by omega) ?_) (fun z => mcomp_4 W hg n _ (v2 + 1) (by omega) (by omega) ?_)
      · rw [Int32.add_zero, en, cnt32, if_neg (hv'.no z), e]
      · rw [en, cnt32, if_pos (hv'.yes z), e]
    refine al_ite (fun z => mcomp_29 W h2 (by omega) (b0 := false) (fin false (decide_eq_false (by omega)).symm) fuel0 0 0 (by decide) (by rw [ti0]; omega) (Or.inr ⟨ti0, rfl⟩)) (fun z => mcomp_29 W h2 (by omega) (b0 := true) (fin true (decide_eq_true (by omega)).symm) fuel0 1 0 (by decide) (by rw [ti0]; omega) (Or.inl ⟨ti1, by rw [ti0]; rfl⟩))
theorem mcomp_ok (W : WQ K N h) {gn : Int} (hg : (h 0 31).toInt = gn) : Al (f_X7_companies h) (fun r => r = cnt32 (isFm K N gn) N) :=
  mcomp_4 W hg _ 0 0 (by decide) (by rw [ti0]; omega) rfl
theorem mlarge_17 (W : WQ K N h) {v2 : Int32} {a : Nat} (h2 : v2.toInt = a) (ha : a < N) {k : Int32 → Option Int32} {P : Int32 → Prop} (Kk : ∀ v : Int32, v.toInt = (cmS K N a : Int) → Al (k v) P) : ∀ (n : Nat) (v3 v4 : Int32), 0 ≤ v4.toInt → v4.toInt ≤ N → v3.toInt = cntB (fun b => decide (¬ fw K N a b = -1)) v4.toInt.toNat → Al (l_X7_largest_17 v2 h k n v3 v4) P
  | 0, _, _, _, _, _ => al_none
  | n + 1, v3, v4, p0, p1, e => by
    obtain ⟨W1, W2, W3⟩ := id W
    rw [l_X7_largest_17, W1]
    have t := inc1 (v := v4) (by omega)
    obtain ⟨b, hb⟩ : ∃ b, v4.toInt.toNat = b := ⟨_, rfl⟩
    have en : (v4 + 1).toInt.toNat = b + 1 := by omega
    rw [hb] at e
    have bl := cntB_le (f := fun b => decide (¬ fw K N a b = -1)) b
    refine al_ite (fun c => ?_) (fun c => Kk v3 (by unfold cmS; rw [e, show b = N by omega]))
    obtain ⟨-, ix⟩ := ix8 h2 (show v4.toInt = b by omega) (by omega) (by omega)
    rw [ix, W3 a b ha (by omega)]
    refine al_ite (fun _ => al_ite (fun z => mlarge_17 W h2 ha Kk n _ (v4 + 1) (by omega) (by omega) ?_) (fun z => mlarge_17 W h2 ha Kk n _ (v4 + 1) (by omega) (by omega) ?_)) (fun _ => al_none)
    · rw [Int32.add_zero, en, cntB, if_neg (by rw [decide_eq_true_eq]; exact fun w => w z), e]
    · rw [en, cntB, if_pos (decide_eq_true z), inc1 (by omega), e]; rfl
theorem mlarge_4 (W : WQ K N h) : ∀ (n : Nat) (v1 v2 : Int32), 0 ≤ v2.toInt → v2.toInt ≤ N → v1.toInt = mxN (cmS K N) v2.toInt.toNat → Al (l_X7_largest_4 h (fun v => some v) n v1 v2) (fun r => r.toInt = mxN (cmS K N) N)
  | 0, _, _, _, _, _ => al_none
  | n + 1, v1, v2, p0, p1, e => by
    obtain ⟨W1, W2, W3⟩ := id W
    rw [l_X7_largest_4, W1]
    have t := inc1 (v := v2) (by omega)
    obtain ⟨a, ha⟩ : ∃ a, v2.toInt.toNat = a := ⟨_, rfl⟩
    have en : (v2 + 1).toInt.toNat = a + 1 := by omega
    rw [ha] at e
    refine al_ite (fun c => mlarge_17 W (a := a) (by omega) (by omega) (fun v hv => ?_) fuel0 0 0 (by decide) (by rw [ti0]; omega) (by rw [ti0]; rfl)) (fun c => al_some (by rw [e, show a = N by omega]))
    refine al_ite (fun z => mlarge_4 W n _ (v2 + 1) (by omega) (by omega) ?_) (fun z => mlarge_4 W n _ (v2 + 1) (by omega) (by omega) ?_)
    · rw [en, mxN, if_pos (by omega)]; exact hv
    · rw [en, mxN, if_neg (by omega)]; exact e
theorem mlarge_ok (W : WQ K N h) : Al (f_X7_largest h) (fun r => r.toInt = mxN (cmS K N) N) :=
  mlarge_4 W _ 0 0 (by decide) (by rw [ti0]; omega) rfl
/-- the largest of all, in either order -/
def isMa (val : Nat → Nat → Int) (N : Nat) (M : Int) : Prop := (∀ i j, i < N → j < N → val i j ≤ M) ∧ 0 ≤ M ∧ (M = 0 ∨ ∃ i j, i < N ∧ j < N ∧ val i j = M)
theorem isMa.mx {val : Nat → Nat → Int} {M : Int} (h : isMa val N M) (hs : ∀ i j, i < N → j < N → val i j = val j i) (h0 : ∀ i, i < N → val i i = 0) : isMx val N M := by
  obtain ⟨a1, a2, a3⟩ := h
  refine ⟨fun i j h1 h2 => a1 i j (by omega) h2, a2, ?_⟩
  rcases a3 with q | ⟨i, j, q1, q2, q3⟩
  · exact Or.inl q
  · rcases Nat.lt_trichotomy i j with z | z | z
    · exact Or.inr ⟨i, j, z, q2, q3⟩
    · subst z
      rw [h0 i q1] at q3
      exact Or.inl q3.symm
    · exact Or.inr ⟨j, i, z, q1, by rw [hs j i q2 q1]; exact q3⟩
theorem mlong_15 (W : WQ K N h) {v1 v3 : Int32} {i : Nat} (h3 : v3.toInt = i) (hi : i < N) {k : Int32 → Option Int32} {P : Int32 → Prop} {m0 : Int} (Kk : ∀ v : Int32, m0 ≤ v.toInt → (v.toInt = m0 ∨ ∃ j, j < N ∧ vlS K N v1.toInt i j = v.toInt) → (∀ j, j < N → vlS K N v1.toInt i j ≤ v.toInt) → Al (k v) P) : ∀ (n : Nat) (v2 v4 : Int32), 0 ≤ v4.toInt → v4.toInt ≤ N → m0 ≤ v2.toInt → (v2.toInt = m0 ∨ ∃ j, j < N ∧ vlS K N v1.toInt i j = v2.toInt) → (∀ j, j < v4.toInt.toNat → vlS K N v1.toInt i j ≤ v2.toInt) → Al (l_X7_longest_15 v1 v3 h k n v2 v4) P
  | 0, _, _, _, _, _, _, _ => al_none
  | n + 1, v2, v4, p0, p1, hm, ho, hb => by
    obtain ⟨W1, W2, W3⟩ := id W
    rw [l_X7_longest_15, W1]
    have t := inc1 (v := v4) (by omega)
    obtain ⟨j, hj⟩ : ∃ j, v4.toInt.toNat = j := ⟨_, rfl⟩
    have en : (v4 + 1).toInt.toNat = j + 1 := by omega
    rw [hj] at hb
    refine al_ite (fun c => ?_) (fun c => Kk v2 hm ho (fun q h1 => hb q (by omega)))
    obtain ⟨-, ix⟩ := ix8 h3 (show v4.toInt = j by omega) (by omega) (by omega)
    rw [ix]
    have w := W3 i j hi (by omega)
    have go : ∀ x : Int32, x.toInt = vlS K N v1.toInt i j → Al (if v2.toInt < x.toInt then (l_X7_longest_15 v1 v3 h k n x (v4 + 1)) else (l_X7_longest_15 v1 v3 h k n v2 (v4 + 1))) P := by
      intro x hx
      refine al_ite (fun z => mlong_15 W h3 hi Kk n _ (v4 + 1) (by omega) (by omega) (by omega) (Or.inr ⟨j, by omega, hx.symm⟩) (fun q h1 => ?_)) (fun z => mlong_15 W h3 hi Kk n _ (v4 + 1) (by omega) (by omega) hm ho (fun q h1 => ?_))
      · by_cases e : q = j
        · rw [e]; omega
        · have := hb q (by omega); omega
      · by_cases e : q = j
        · rw [e]; omega
        · exact hb q (by omega)
    refine al_ite (fun _ => al_ite (fun z => go v1 ?_) (fun z => al_ite (fun _ => go _ ?_) (fun _ => al_none))) (fun _ => al_none)
    · unfold vlS; rw [if_pos (by omega)]
    · unfold vlS; rw [if_neg (by omega)]; exact w
theorem mlong_4 (W : WQ K N h) {v1 : Int32} : ∀ (n : Nat) (v2 v3 : Int32), 0 ≤ v3.toInt → v3.toInt ≤ N → 0 ≤ v2.toInt → (v2.toInt = 0 ∨ ∃ i j, i < N ∧ j < N ∧ vlS K N v1.toInt i j = v2.toInt) → (∀ i j, i < v3.toInt.toNat → j < N → vlS K N v1.toInt i j ≤ v2.toInt) → Al (l_X7_longest_4 v1 h (fun v => some v) n v2 v3) (fun r => isMa (vlS K N v1.toInt) N r.toInt)
  | 0, _, _, _, _, _, _, _ => al_none
  | n + 1, v2, v3, p0, p1, hm, ho, hb => by
    obtain ⟨W1, W2, W3⟩ := id W
    rw [l_X7_longest_4, W1]
    have t := inc1 (v := v3) (by omega)
    obtain ⟨i, hi⟩ : ∃ i, v3.toInt.toNat = i := ⟨_, rfl⟩
    have en : (v3 + 1).toInt.toNat = i + 1 := by omega
    rw [hi] at hb
    refine al_ite (fun c => ?_) (fun c => al_some ⟨fun a b h1 h2 => hb a b (by omega) h2, hm, ho⟩)
    refine mlong_15 W (i := i) (by omega) (by omega) (m0 := v2.toInt) (fun v q1 q2 q3 => ?_) fuel0 v2 0 (by decide) (by rw [ti0]; omega) (Int.le_refl _) (Or.inl rfl) (fun j h1 => absurd h1 (by rw [ti0]; exact Nat.not_lt_zero j))
    refine mlong_4 W n v (v3 + 1) (by omega) (by omega) (by omega) ?_ (fun a b h1 h2 => ?_)
    · rcases q2 with q2 | ⟨j, j1, j2⟩
      · rcases ho with o | ⟨a, b, o1, o2, o3⟩
        · exact Or.inl (by omega)
        · exact Or.inr ⟨a, b, o1, o2, by omega⟩
      · exact Or.inr ⟨i, j, by omega, j1, j2⟩
    · by_cases e : a = i
      · rw [e]; exact q3 b h2
      · have := hb a b (by omega) h2; omega
theorem fw_sym (hS : ∀ i j, i < N → j < N → K i j = true → K j i = true) {i j : Nat} (hi : i < N) (hj : j < N) : fw K N i j = fw K N j i := (fw_isD hi hj).uniq (isD_sym hS hj hi (fw_isD hj hi))
theorem mlong_ok (W : WQ K N h) (hS : ∀ i j, i < N → j < N → K i j = true → K j i = true) {v1 : Int32} : Al (f_X7_longest v1 h) (fun r => isMx (vlS K N v1.toInt) N r.toInt) := by
  refine al_mono (mlong_4 W _ 0 0 (by decide) (by rw [ti0]; omega) (by decide) (Or.inl ti0) (fun i j h => absurd h (by rw [ti0]; exact Nat.not_lt_zero i))) (fun r hr => ?_)
  refine hr.mx (fun i j hi hj => ?_) (fun i hi => ?_)
  · unfold vlS; rw [fw_sym hS hi hj]
  · unfold vlS; rw [fw_self, if_neg (by decide)]
/-! companies among those but one -/
theorem fw_congr {L : Nat → Nat → Bool} (h : ∀ i j, i < N → j < N → K i j = L i j) {i j : Nat} (hi : i < N) (hj : j < N) : fw K N i j = fw L N i j := by
  refine (fw_isD hi hj).uniq ?_
  rcases fw_isD (K := L) hi hj with ⟨e, q⟩ | ⟨n, e, q, p⟩
  · exact Or.inl ⟨e, fun n z => q n ((wk_congr h n i j).mp z)⟩
  · exact Or.inr ⟨n, e, (wk_congr h n i j).mpr q, fun m hm z => p m hm ((wk_congr h m i j).mp z)⟩
/-- none but members come to others -/
theorem wk_mem {mem : Nat → Bool} : ∀ (n a b : Nat), a < N → ¬ mem a = true → wk (kMem K mem) N n a b → b = a
  | 0, a, b, _, _, h => Eq.symm h
  | n + 1, a, b, ha, hm, ⟨c, c1, c2, c3, c4⟩ => by
    have := wk_mem n a c ha hm c3
    subst this
    unfold kMem at c4
    rw [Bool.and_eq_true, Bool.and_eq_true] at c4
    exact absurd c4.2.1 hm
/-- the first of a company, told alike by both -/
theorem isF_m (hS : ∀ i j, i < N → j < N → K i j = true → K j i = true) {mem : Nat → Bool} {gn : Int} (hm : ∀ i, i < N → (mem i = true ↔ ¬ (i : Int) = gn)) {L : Nat → Nat → Bool} (hL : ∀ i j, i < N → j < N → kMem K mem i j = L i j) {i : Nat} (hi : i < N) : isF K N mem i = isFm L N gn i := by
  unfold isF isFm
  have e1 : mem i = decide (¬ (i : Int) = gn) := by
    apply Bool.eq_iff_iff.mpr
    rw [hm i hi, decide_eq_true_eq]
  rw [← e1]
  cases hmi : mem i with
  | false => rfl
  | true =>
    rw [Bool.true_and, Bool.true_and]
    congr 1
    apply Bool.eq_iff_iff.mpr
    rw [exI_iff, exI_iff]
    constructor
    · intro ⟨b, b1, b2⟩
      rw [Bool.and_eq_true, decide_eq_true_eq] at b2
      refine ⟨b, b1, decide_eq_true ?_⟩
      rw [← fw_congr hL hi (show b < N by omega), ← fw_sym (kMem_sym hS) (show b < N by omega) hi]
      exact b2.2
    · intro ⟨b, b1, b2⟩
      rw [decide_eq_true_eq, ← fw_congr hL hi (show b < N by omega)] at b2
      refine ⟨b, b1, ?_⟩
      rw [Bool.and_eq_true, decide_eq_true_eq, fw_sym (kMem_sym hS) (show b < N by omega) hi]
      refine ⟨?_, b2⟩
      obtain ⟨s, ws⟩ := (fw_con hi (show b < N by omega)).mp b2
      cases hmb : mem b with
      | true => rfl
      | false =>
        have hb' := wk_sym (kMem_sym hS) s i b hi ws
        have := wk_mem s b i (by omega) (by rw [hmb]; decide) hb'
        omega
theorem cnt_F (hS : ∀ i j, i < N → j < N → K i j = true → K j i = true) {mem : Nat → Bool} {gn : Int} (hm : ∀ i, i < N → (mem i = true ↔ ¬ (i : Int) = gn)) {L : Nat → Nat → Bool} (hL : ∀ i j, i < N → j < N → kMem K mem i j = L i j) : cnt32 (isF K N mem) N = cnt32 (isFm L N gn) N := cnt32_congr N (fun i hi => isF_m hS hm hL hi)
end WB
end
end

section
/-! the relation of both objects, between calls -/
noncomputable section
def yOf (a : Nat) (h : dH) : zY := ((h a 2).toInt.toNat, h a 1, h (a + 1), h (a + 2), h (a + 3), evF h (dtx (h a 3)))
def stOf (a : Nat) (h : dH) : zT2 := fun i j => h (a + 5 + i) j
/-- the steps of text t say what its bytes say -/
def Sem (hC hM : dH) (t : Nat) : Prop := tOk hC (10 + 4 * t) ∧ (∀ nm pt, pt < 3 → ∃ v, tEv hC (10 + 4 * t) nm pt = some [v]) ∧ ∀ (h' : dH) (v1 v2 : Int32) (o : Int32 × dH) (pt : Nat), (∀ j, j < 160 → h' 1 (160 * t + j) = hM 1 (160 * t + j)) → h' 2 t = hM 2 t → pt < 3 → v1.toInt = t → v2.toInt = pt → f_X7_read v1 v2 h' = some o → mRd o.2 h' ∧ tEv hC (10 + 4 * t) (nmF h') pt = some [o.1]
/-- a street as these tell -/
def strR (a : Nat) (yr lm ct rl : Int32) (kd nb tb sg : Nat → Int32) (tc : Int) (h : dH) : Prop :=
  h a 0 = yr ∧ h a 1 = lm ∧ h a 2 = ct ∧ (0 ≤ (h a 2).toInt ∧ (h a 2).toInt ≤ 8) ∧ (∀ i, i < (h a 2).toInt.toNat → h (a + 1) i = kd i ∧ h (a + 2) i = nb i ∧ h (a + 3) i = tb i) ∧ (∀ i j, i < (h a 2).toInt.toNat → j < (h a 2).toInt.toNat → h (a + 5 + i) j = sg (8 * i + j)) ∧
  (dtx (h a 3) = 10 + 4 * rl.toInt.toNat ∧ 0 ≤ rl.toInt ∧ rl.toInt < tc) ∧ (0 ≤ (h a 0).toInt ∧ (h a 0).toInt ≤ 999) ∧
  (∀ i, i < (h a 2).toInt.toNat → (0 ≤ (h (a + 1) i).toInt ∧ (h (a + 1) i).toInt ≤ 5) ∧ (0 ≤ (h (a + 2) i).toInt ∧ (h (a + 2) i).toInt ≤ 9) ∧ (-1 ≤ (h (a + 3) i).toInt ∧ (h (a + 3) i).toInt ≤ 3)) ∧
  Wf (h a 2).toInt.toNat (stOf a h) ∧ (∀ i j, i < 8 → j < 8 → (h a 2).toInt.toNat ≤ i ∨ (h a 2).toInt.toNat ≤ j → h (a + 5 + i) j = 0)
def nowR (hC hM : dH) : Prop := strR 43 (hM 0 7) (hM 0 8) (hM 0 13) (hM 0 4) (hM 4) (hM 5) (hM 6) (hM 7) (hC 0 3).toInt hC
def keptR (hC hM : dH) : Prop := ((hC 0 7).toInt = 0 ∧ (hM 0 39).toInt = -1) ∨ (¬ (hC 0 7).toInt = 0 ∧ strR 71 (hM 0 40) (hM 0 41) (hM 0 39) (hM 0 42) (hM 4) (hM 11) (hM 12) (hM 13) (hC 0 3).toInt hC ∧ (hC 71 2).toInt ≤ (hC 43 2).toInt)
def textR (hC hM : dH) : Prop := hC 0 3 = hM 0 3 ∧ 1 ≤ (hC 0 3).toInt ∧ (hC 0 3).toInt ≤ 6 ∧ ∀ t : Nat, (t : Int) < (hC 0 3).toInt → Sem hC hM t
def tapeR (hC hM : dH) : Prop := hC 1 0 = hM 0 6 ∧ 0 ≤ (hC 1 0).toInt ∧ (hC 1 0).toInt ≤ 160 ∧ ∀ j, j < (hC 1 0).toInt.toNat → hC 5 j = hM 3 j ∧ 0 ≤ (hC 5 j).toInt ∧ (hC 5 j).toInt ≤ 255
def shR (hC hM : dH) (s : Nat) : Prop := ((hC (34 + 2 * s) 0).toInt = -1 ∧ (hM 14 s).toInt = 0) ∨ (0 ≤ (hC (34 + 2 * s) 0).toInt ∧ (hC (34 + 2 * s) 0).toInt ≤ 2 ∧ ¬ (hM 14 s).toInt = 0 ∧ hC (34 + 2 * s) 0 = hM 15 s ∧ hC (34 + 2 * s) 1 = hM 16 s ∧ 0 ≤ (hC (34 + 2 * s) 1).toInt ∧ (hC (34 + 2 * s) 1).toInt ≤ 40 ∧ ∀ i, i < (hC (34 + 2 * s) 1).toInt.toNat → hC (34 + 2 * s + 1) i = hM 17 (40 * s + i))
def RR (hC hM : dH) : Prop := nowR hC hM ∧ keptR hC hM ∧ textR hC hM ∧ tapeR hC hM ∧ (∀ s, s < 4 → shR hC hM s) ∧ mNo hM
/-! what stays as it was -/
theorem Sem.same {gC hC gM hM : dH} {t : Nat} (q : Sem hC hM t) (e1 : ∀ k, gC (10 + 4 * t + 1) k = hC (10 + 4 * t + 1) k) (e2 : ∀ k, gC (10 + 4 * t + 2) k = hC (10 + 4 * t + 2) k) (m1 : ∀ j, j < 160 → gM 1 (160 * t + j) = hM 1 (160 * t + j)) (m2 : gM 2 t = hM 2 t) : Sem gC gM t := by
  obtain ⟨c1, c2, c3⟩ := tEv_congr (f := gC) (g := hC) (ta := 10 + 4 * t) e1 e2
  obtain ⟨q1, q2, q3⟩ := q
  refine ⟨c1.mpr q1, fun nm pt hp => by rw [c2]; exact q2 nm pt hp, fun h' v1 v2 o pt a1 a2 a3 a4 a5 a6 => ?_⟩
  rw [c2]
  exact q3 h' v1 v2 o pt (fun j hj => (a1 j hj).trans (m1 j hj)) (a2.trans m2) a3 a4 a5 a6
theorem strR.same {a : Nat} {yr lm ct rl yr' lm' ct' rl' : Int32} {kd nb tb sg kd' nb' tb' sg' : Nat → Int32} {tc tc' : Int} {g h : dH} (q : strR a yr lm ct rl kd nb tb sg tc h) (e : ∀ b k, a ≤ b ∧ b ≤ a + 12 → g b k = h b k) (e1 : yr' = yr) (e2 : lm' = lm) (e3 : ct' = ct) (e4 : rl' = rl) (m1 : ∀ i, i < 8 → kd' i = kd i ∧ nb' i = nb i ∧ tb' i = tb i) (m2 : ∀ i, i < 64 → sg' i = sg i) (et : tc ≤ tc') : strR a yr' lm' ct' rl' kd' nb' tb' sg' tc' g := by
  obtain ⟨q1, q2, q3, q4, q5, q6, q7, q8, q9, q10, q11⟩ := q
  have c : g a 2 = h a 2 := e a 2 (by omega)
  have cs : stOf a g = fun i j => g (a + 5 + i) j := rfl
  unfold strR
  rw [c, e a 0 (by omega), e a 1 (by omega), e a 3 (by omega), e1, e2, e3, e4]
  refine ⟨q1, q2, q3, q4, fun i hi => ?_, fun i j hi hj => ?_, ⟨q7.1, q7.2.1, by omega⟩, q8, fun i hi => ?_, ?_, fun i j hi hj hz => ?_⟩
  · obtain ⟨m3, m4, m5⟩ := m1 i (by omega)
    rw [e (a + 1) i (by omega), e (a + 2) i (by omega), e (a + 3) i (by omega), m3, m4, m5]
    exact q5 i hi
  · rw [e (a + 5 + i) j (by omega), m2 _ (by omega)]
    exact q6 i j hi hj
  · rw [e (a + 1) i (by omega), e (a + 2) i (by omega), e (a + 3) i (by omega)]
    exact q9 i hi
  · refine ⟨fun i j hi hj => ?_, fun i hi => ?_⟩
    · have w := q10.1 i j hi hj
      unfold stOf at w ⊢
      rw [e (a + 5 + i) j (by omega), e (a + 5 + j) i (by omega)]
      exact w
    · have w := q10.2 i hi
      unfold stOf at w ⊢
      rw [e (a + 5 + i) i (by omega)]
      exact w
  · rw [e (a + 5 + i) j (by omega)]
    exact q11 i j hi hj hz
/-- what the class shows -/
def cV (g h : dH) : Prop := ∀ a k, (a = 0 ∧ (k = 3 ∨ k = 7)) ∨ (a = 1 ∧ k = 0) ∨ a = 5 ∨ (11 ≤ a ∧ a ≤ 32 ∧ (a % 4 = 3 ∨ a % 4 = 0)) ∨ (34 ≤ a ∧ a ≤ 41) ∨ (43 ≤ a ∧ a ≤ 55) ∨ (71 ≤ a ∧ a ≤ 83) → g a k = h a k
theorem cV.refl (h : dH) : cV h h := fun _ _ _ => rfl
theorem cV.trans {f g h : dH} (q : cV f g) (r : cV g h) : cV f h := fun a k x => (q a k x).trans (r a k x)
theorem cFr.v {g h : dH} (q : cFr 57 g h) : cV g h := fun a k x => q a k (by omega) (by omega)
theorem fFr.v {N : Nat} {g h : dH} (q : fFr 57 N g h) (hN : N ≤ 8) : cV g h := fun a k x => q a k (by omega) (by omega) (by omega) (by omega)
theorem nFr.v {a : Nat} (ha : zS a) {g h : dH} (q : nFr a g h) : cV g h := fun b k x => by
  have z := zS_or ha
  exact q b k (by omega) (by omega)
theorem oFr.v {g h : dH} (q : oFr g h) : cV g h := fun a k x => q a k (by omega) (by omega)
theorem becQ.v {c : Nat} {g h : dH} (q : becQ 57 c g h) : cV g h := fun a k x => q.2.2.2.2.2.2 a k (by omega)
theorem textR.same {gC hC gM hM : dH} (q : textR hC hM) (e : ∀ a k, (a = 0 ∧ k = 3) ∨ (11 ≤ a ∧ a ≤ 32 ∧ (a % 4 = 3 ∨ a % 4 = 0)) → gC a k = hC a k) (m : ∀ a k, (a = 0 ∧ k = 3) ∨ a = 1 ∨ a = 2 → gM a k = hM a k) : textR gC gM := by
  obtain ⟨q1, q2, q3, q4⟩ := q
  have c := e 0 3 (by omega)
  unfold textR
  rw [c, m 0 3 (by omega)]
  exact ⟨q1, q2, q3, fun t ht => (q4 t ht).same (fun k => e _ k (by omega)) (fun k => e _ k (by omega)) (fun j _ => m 1 _ (by omega)) (m 2 t (by omega))⟩
theorem tapeR.same {gC hC gM hM : dH} (q : tapeR hC hM) (e : ∀ a k, (a = 1 ∧ k = 0) ∨ a = 5 → gC a k = hC a k) (m : ∀ a k, (a = 0 ∧ k = 6) ∨ a = 3 → gM a k = hM a k) : tapeR gC gM := by
  unfold tapeR at q ⊢
  rw [e 1 0 (by omega), m 0 6 (by omega)]
  exact ⟨q.1, q.2.1, q.2.2.1, fun j hj => by rw [e 5 j (by omega), m 3 j (by omega)]; exact q.2.2.2 j hj⟩
theorem shR.same {gC hC gM hM : dH} {s : Nat} (q : shR hC hM s) (hs : s < 4) (e : ∀ a k, 34 ≤ a ∧ a ≤ 41 → gC a k = hC a k) (m : ∀ a k, 14 ≤ a ∧ a ≤ 17 → gM a k = hM a k) : shR gC gM s := by
  unfold shR at q ⊢
  rw [e (34 + 2 * s) 0 (by omega), e (34 + 2 * s) 1 (by omega), m 14 s (by omega), m 15 s (by omega), m 16 s (by omega)]
  rcases q with q | ⟨q1, q2, q3, q4, q5, q6, q7, q8⟩
  · exact Or.inl q
  · exact Or.inr ⟨q1, q2, q3, q4, q5, q6, q7, fun i hi => by rw [e (34 + 2 * s + 1) i (by omega), m 17 _ (by omega)]; exact q8 i hi⟩
theorem keptR.same {gC hC gM hM : dH} (q : keptR hC hM) (e : ∀ a k, (a = 0 ∧ k = 7) ∨ (71 ≤ a ∧ a ≤ 83) → gC a k = hC a k) (m : ∀ a k : Nat, (a = 0 ∧ 39 ≤ k ∧ k ≤ 42) ∨ (a = 4 ∧ (k : Int) < (hC 71 2).toInt) ∨ (11 ≤ a ∧ a ≤ 13) → gM a k = hM a k) (hc : (hC 43 2).toInt ≤ (gC 43 2).toInt) (ht : (hC 0 3).toInt ≤ (gC 0 3).toInt) : keptR gC gM := by
  unfold keptR at q ⊢
  rw [e 0 7 (by omega), m 0 39 (by omega), m 0 40 (by omega), m 0 41 (by omega), m 0 42 (by omega), e 71 2 (by omega)]
  rcases q with q | ⟨q1, q2, q3⟩
  · exact Or.inl q
  · refine Or.inr ⟨q1, ?_, by omega⟩
    obtain ⟨w1, w2, w3, w4, w5, w6, w7, w8, w9, w10, w11⟩ := q2
    have c : gC 71 2 = hC 71 2 := e 71 2 (by omega)
    have w : strR 71 (hM 0 40) (hM 0 41) (hM 0 39) (hM 0 42) (fun i => if (i : Int) < (hC 71 2).toInt then hM 4 i else gM 4 i) (hM 11) (hM 12) (hM 13) (hC 0 3).toInt hC := ⟨w1, w2, w3, w4, fun i hi => by simp only; rw [if_pos (by omega)]; exact w5 i hi, w6, w7, w8, w9, w10, w11⟩
    refine w.same (fun b k hb => e b k (by omega)) rfl rfl rfl rfl (fun i hi => ⟨?_, m 11 i (by omega), m 12 i (by omega)⟩) (fun i hi => m 13 i (by omega)) ht
    by_cases z : (i : Int) < (hC 71 2).toInt
    · rw [if_pos z]; exact m 4 i (by omega)
    · rw [if_neg z]
/-- calls that only ask -/
theorem RR.keep {gC hC gM hM : dH} (q : RR hC hM) (e : cV gC hC) (m : bFr gM hM) : RR gC gM := by
  obtain ⟨q1, q2, q3, q4, q5, q6⟩ := q
  have m' : ∀ a k, ¬ (a = 0 ∧ 14 ≤ k ∧ k ≤ 28) → ¬ (a = 0 ∧ k = 34) → ¬ (8 ≤ a ∧ a ≤ 10) → ¬ (a = 7 ∧ 64 ≤ k) → gM a k = hM a k := m
  refine ⟨?_, ?_, q3.same (fun a k x => e a k (by omega)) (fun a k x => m' a k (by omega) (by omega) (by omega) (by omega)), q4.same (fun a k x => e a k (by omega)) (fun a k x => m' a k (by omega) (by omega) (by omega) (by omega)), fun s hs => (q5 s hs).same hs (fun a k x => e a k (by omega)) (fun a k x => m' a k (by omega) (by omega) (by omega) (by omega)), mNo.b m q6⟩
  · unfold nowR at q1 ⊢
    rw [e 0 3 (by omega)]
    refine q1.same (fun b k hb => e b k (by omega)) (m' 0 7 (by omega) (by omega) (by omega) (by omega)) (m' 0 8 (by omega) (by omega) (by omega) (by omega)) (m' 0 13 (by omega) (by omega) (by omega) (by omega)) (m' 0 4 (by omega) (by omega) (by omega) (by omega)) (fun i hi => ⟨m' 4 i (by omega) (by omega) (by omega) (by omega), m' 5 i (by omega) (by omega) (by omega) (by omega), m' 6 i (by omega) (by omega) (by omega) (by omega)⟩) (fun i hi => m' 7 i (by omega) (by omega) (by omega) (by omega)) (Int.le_refl _)
  · exact q2.same (fun a k x => e a k (by omega)) (fun a k x => m' a k (by omega) (by omega) (by omega) (by omega)) (by rw [e 43 2 (by omega)]; exact Int.le_refl _) (by rw [e 0 3 (by omega)]; exact Int.le_refl _)
/-! the street of now, on both sides -/
theorem RR.st {hC hM : dH} (q : RR hC hM) : SC 43 (yOf 43 hC) (hC 43 0) (stOf 43 hC) hC ∧ SM (yOf 43 hC) (hC 43 0) (stOf 43 hC) hM ∧ Wf (yN (yOf 43 hC)) (stOf 43 hC) ∧ Yr (yOf 43 hC) ∧ Tr (yOf 43 hC) := by
  obtain ⟨q1, q2, q3, q4, q5, q6⟩ := q
  obtain ⟨w1, w2, w3, w4, w5, w6, w7, w8, w9, w10, w11⟩ := q1
  have hN : yN (yOf 43 hC) = (hC 43 2).toInt.toNat := rfl
  obtain ⟨t1, t2, t3, t4⟩ := q3
  have sm := t4 (hM 0 4).toInt.toNat (by omega)
  obtain ⟨s1, s2, s3⟩ := sm
  rw [← w7.1] at s1 s2 s3
  refine ⟨⟨rfl, rfl, by rw [hN]; omega, by rw [hN]; omega, fun i _ => ⟨rfl, rfl, rfl⟩, fun i j _ _ => rfl, s1, s2, fun pt nm _ => rfl⟩, ⟨w1.symm, w2.symm, by rw [hN, ← w3]; omega, by rw [hN]; omega, fun i hi => ?_, fun i j hi hj => ?_, fun h' v1 v2 o pt a1 a2 a3 a4 a5 a6 => ?_⟩, w10, ⟨fun i hi => (w9 i hi).2.1, fun pt nm => evF_rng _ _ _ _⟩, fun i hi => (w9 i hi).2.2⟩
  · obtain ⟨x1, x2, x3⟩ := w5 i hi
    exact ⟨x1.symm, x2.symm, x3.symm⟩
  · exact (w6 i j hi hj).symm
  · obtain ⟨y1, y2⟩ := s3 h' v1 v2 o pt (fun j _ => a1 _) (a2 _) a3 (by rw [a4]; omega) a5 a6
    exact ⟨y1, (evF_of y2).symm⟩
end
end

section
/-! small questions, on both sides -/
noncomputable section
theorem al_in {α : Type} {v : Int32} {A B : Int64} {f : Int32 → Option α} {P : α → Prop} (k : ∀ r : Int32, ((r.toInt = 0 ∧ (v.toInt < A.toInt ∨ B.toInt < v.toInt)) ∨ (r.toInt = 1 ∧ A.toInt ≤ v.toInt ∧ v.toInt ≤ B.toInt)) → Al (f r) P) : Al (oP (f_X7_in v.toInt64 A B) f) P := by
  refine al_oP (fun r hr => k r ?_)
  have q := in7 hr
  rw [l_i2l] at q
  exact q
/-- whether it is a house -/
def hsQ (N : Nat) (v r : Int32) : Prop := (r.toInt = 0 ∧ (v.toInt < 0 ∨ N ≤ v.toInt)) ∨ (r.toInt = 1 ∧ 0 ≤ v.toInt ∧ v.toInt < N)
theorem house7 {N : Nat} {h : dH} (hN : (h 0 13).toInt = N) (hN8 : N ≤ 8) {v : Int32} : Al (f_X7_isHouse v h) (fun r => hsQ N v r) := by
  unfold f_X7_isHouse
  have e : (((h 0 13) - 1).toInt64).toInt = (N : Int) - 1 := by
    rw [l_i2l]
    exact i_sub hN ti1 (by omega) (by omega)
  have z : (0 : Int64).toInt = 0 := by decide
  refine al_in (fun r q => al_ite (fun _ => al_some ?_) (fun _ => al_none))
  rw [e, z] at q
  unfold hsQ
  omega
theorem house6 {N : Nat} {h : dH} (hN : (h 43 2).toInt = N) {v : Int32} : Al (f_X6_isHouse v h) (fun r => hsQ N v r) := by
  unfold f_X6_isHouse hsQ
  rw [hN]
  exact al_ite (fun c => al_some (by rw [ti0]; omega)) (fun c => al_ite (fun d => al_some (by rw [ti1]; omega)) (fun d => al_some (by rw [ti0]; omega)))
def twQ (N : Nat) (v w r : Int32) : Prop := (r.toInt = 0 ∧ ¬ (0 ≤ v.toInt ∧ v.toInt < N ∧ 0 ≤ w.toInt ∧ w.toInt < N ∧ ¬ v.toInt = w.toInt)) ∨ (r.toInt = 1 ∧ 0 ≤ v.toInt ∧ v.toInt < N ∧ 0 ≤ w.toInt ∧ w.toInt < N ∧ ¬ v.toInt = w.toInt)
theorem two7 {N : Nat} {h : dH} (hN : (h 0 13).toInt = N) (hN8 : N ≤ 8) {v w : Int32} : Al (f_X7_areTwo v w h) (fun r => twQ N v w r) := by
  unfold f_X7_areTwo
  refine al_oP (fun r1 h1 => ?_)
  have q1 := house7 hN hN8 r1 h1
  unfold hsQ at q1
  refine al_ite (fun c => al_some (by unfold twQ; rw [ti0]; omega)) (fun c => al_oP (fun r2 h2 => ?_))
  have q2 := house7 hN hN8 r2 h2
  unfold hsQ at q2
  refine al_ite (fun d => al_some (by unfold twQ; rw [ti0]; omega)) (fun d => al_ite (fun e => al_some (by unfold twQ; rw [ti0]; omega)) (fun e => al_some (by unfold twQ; rw [ti1]; omega)))
theorem two6 {N : Nat} {h : dH} (hN : (h 43 2).toInt = N) {v w : Int32} : Al (f_X6_isTwo v w h) (fun r => twQ N v w r) := by
  unfold f_X6_isTwo
  refine al_oP (fun r1 h1 => ?_)
  have q1 := house6 hN r1 h1
  unfold hsQ at q1
  refine al_ite (fun c => al_some (by unfold twQ; rw [ti0]; omega)) (fun c => al_oP (fun r2 h2 => ?_))
  have q2 := house6 hN r2 h2
  unfold hsQ at q2
  refine al_ite (fun d => al_some (by unfold twQ; rw [ti0]; omega)) (fun d => al_ite (fun e => al_some (by unfold twQ; rw [ti0]; omega)) (fun e => al_some (by unfold twQ; rw [ti1]; omega)))
theorem either6 {v : Int32} : Al (f_X6_isEither v) (fun r => (r.toInt = 0 ∧ ¬ (v.toInt = 0 ∨ v.toInt = 1)) ∨ (r.toInt = 1 ∧ (v.toInt = 0 ∨ v.toInt = 1))) := by
  unfold f_X6_isEither
  exact al_ite (fun c => al_some (by rw [ti1]; omega)) (fun c => al_ite (fun d => al_some (by rw [ti1]; omega)) (fun d => al_some (by rw [ti0]; omega)))
theorem years6 {v : Int32} : Al (f_X6_isYears v) (fun r => (r.toInt = 0 ∧ ¬ (0 ≤ v.toInt ∧ v.toInt ≤ 20)) ∨ (r.toInt = 1 ∧ 0 ≤ v.toInt ∧ v.toInt ≤ 20)) := by
  unfold f_X6_isYears
  exact al_ite (fun c => al_some (by rw [ti0]; omega)) (fun c => al_ite (fun d => al_some (by rw [ti0]; omega)) (fun d => al_some (by rw [ti1]; omega)))
theorem friends6 {v : Int32} : Al (f_X6_isFriends v) (fun r => (r.toInt = 0 ∧ ¬ (0 ≤ v.toInt ∧ v.toInt ≤ 28)) ∨ (r.toInt = 1 ∧ 0 ≤ v.toInt ∧ v.toInt ≤ 28)) := by
  unfold f_X6_isFriends
  exact al_ite (fun c => al_some (by rw [ti0]; omega)) (fun c => al_ite (fun d => al_some (by rw [ti0]; omega)) (fun d => al_some (by rw [ti1]; omega)))
theorem L0 : (0 : Int64).toInt = 0 := by decide
theorem L1 : (1 : Int64).toInt = 1 := by decide
theorem L2 : (2 : Int64).toInt = 2 := by decide
theorem L3 : (3 : Int64).toInt = 3 := by decide
theorem L4 : (4 : Int64).toInt = 4 := by decide
theorem L5 : (5 : Int64).toInt = 5 := by decide
theorem L6 : (6 : Int64).toInt = 6 := by decide
theorem L7 : (7 : Int64).toInt = 7 := by decide
theorem L8 : (8 : Int64).toInt = 8 := by decide
theorem L9 : (9 : Int64).toInt = 9 := by decide
theorem L10 : (10 : Int64).toInt = 10 := by decide
theorem L17 : (17 : Int64).toInt = 17 := by decide
theorem L20 : (20 : Int64).toInt = 20 := by decide
theorem L28 : (28 : Int64).toInt = 28 := by decide
theorem L99 : (99 : Int64).toInt = 99 := by decide
theorem L255 : (255 : Int64).toInt = 255 := by decide
theorem L999 : (999 : Int64).toInt = 999 := by decide
theorem Lm1 : (-1 : Int64).toInt = -1 := by decide
theorem al_house7 {α : Type} {N : Nat} {h : dH} {v : Int32} {f : Int32 → Option α} {P : α → Prop} (hN : (h 0 13).toInt = N) (hN8 : N ≤ 8) (k : ∀ r : Int32, ((r.toInt = 0 ∧ (v.toInt < 0 ∨ N ≤ v.toInt)) ∨ (r.toInt = 1 ∧ 0 ≤ v.toInt ∧ v.toInt < N)) → Al (f r) P) : Al (oP (f_X7_isHouse v h) f) P := al_oP (fun r hr => k r (house7 hN hN8 r hr))
theorem al_house6 {α : Type} {N : Nat} {h : dH} {v : Int32} {f : Int32 → Option α} {P : α → Prop} (hN : (h 43 2).toInt = N) (k : ∀ r : Int32, ((r.toInt = 0 ∧ (v.toInt < 0 ∨ N ≤ v.toInt)) ∨ (r.toInt = 1 ∧ 0 ≤ v.toInt ∧ v.toInt < N)) → Al (f r) P) : Al (oP (f_X6_isHouse v h) f) P := al_oP (fun r hr => k r (house6 hN r hr))
/-- what is told of a house -/
def toldS (Y : zY) (y : Int32) (st : zT2) (of what : Int) : Int32 :=
  if what = 0 then y else if what = 1 then yL Y else if ¬ (0 ≤ of ∧ of < yN Y) then -2 else if what = 2 then yB Y of.toNat else if what = 3 then yT Y of.toNat else if what = 4 then yK Y of.toNat else if what = 5 then cnt32 (knS Y st of.toNat) (yN Y) else if what = 6 then seatsS Y of.toNat else if what = 7 then sdS Y y of.toNat else if 0 ≤ what - 10 ∧ what - 10 < yN Y then st of.toNat (what - 10).toNat else -2
section TD
variable {Y : zY} {y : Int32} {st : zT2} {h : dH}
theorem td0 {of what : Int} (e : what = 0) : toldS Y y st of what = y := if_pos e
theorem td1 {of what : Int} (e : what = 1) : toldS Y y st of what = yL Y := (if_neg (by omega)).trans (if_pos e)
theorem tdB {of what : Int} (e : ¬ what = 0) (f : ¬ what = 1) (g : ¬ (0 ≤ of ∧ of < yN Y)) : toldS Y y st of what = -2 := (if_neg e).trans ((if_neg f).trans (if_pos g))
theorem tdH {of what : Int} (e : ¬ what = 0) (f : ¬ what = 1) (g : 0 ≤ of ∧ of < yN Y) : toldS Y y st of what = if what = 2 then yB Y of.toNat else if what = 3 then yT Y of.toNat else if what = 4 then yK Y of.toNat else if what = 5 then cnt32 (knS Y st of.toNat) (yN Y) else if what = 6 then seatsS Y of.toNat else if what = 7 then sdS Y y of.toNat else if 0 ≤ what - 10 ∧ what - 10 < yN Y then st of.toNat (what - 10).toNat else -2 := (if_neg e).trans ((if_neg f).trans (if_neg (fun q => q g)))
theorem td2 {of what : Int} (e : what = 2) (g : 0 ≤ of ∧ of < yN Y) : toldS Y y st of what = yB Y of.toNat := (tdH (by omega) (by omega) g).trans (if_pos e)
theorem td3 {of what : Int} (e : what = 3) (g : 0 ≤ of ∧ of < yN Y) : toldS Y y st of what = yT Y of.toNat := (tdH (by omega) (by omega) g).trans ((if_neg (by omega)).trans (if_pos e))
theorem td4 {of what : Int} (e : what = 4) (g : 0 ≤ of ∧ of < yN Y) : toldS Y y st of what = yK Y of.toNat := (tdH (by omega) (by omega) g).trans ((if_neg (by omega)).trans ((if_neg (by omega)).trans (if_pos e)))
theorem td5 {of what : Int} (e : what = 5) (g : 0 ≤ of ∧ of < yN Y) : toldS Y y st of what = cnt32 (knS Y st of.toNat) (yN Y) := (tdH (by omega) (by omega) g).trans ((if_neg (by omega)).trans ((if_neg (by omega)).trans ((if_neg (by omega)).trans (if_pos e))))
theorem td6 {of what : Int} (e : what = 6) (g : 0 ≤ of ∧ of < yN Y) : toldS Y y st of what = seatsS Y of.toNat := (tdH (by omega) (by omega) g).trans ((if_neg (by omega)).trans ((if_neg (by omega)).trans ((if_neg (by omega)).trans ((if_neg (by omega)).trans (if_pos e)))))
theorem td7 {of what : Int} (e : what = 7) (g : 0 ≤ of ∧ of < yN Y) : toldS Y y st of what = sdS Y y of.toNat := (tdH (by omega) (by omega) g).trans ((if_neg (by omega)).trans ((if_neg (by omega)).trans ((if_neg (by omega)).trans ((if_neg (by omega)).trans ((if_neg (by omega)).trans (if_pos e))))))
theorem tdO {of what : Int} (e : what < 0 ∨ 7 < what) (g : 0 ≤ of ∧ of < yN Y) : toldS Y y st of what = if 0 ≤ what - 10 ∧ what - 10 < yN Y then st of.toNat (what - 10).toNat else -2 := (tdH (by omega) (by omega) g).trans ((if_neg (by omega)).trans ((if_neg (by omega)).trans ((if_neg (by omega)).trans ((if_neg (by omega)).trans ((if_neg (by omega)).trans (if_neg (by omega)))))))
theorem tdS {of what : Int} (e : 0 ≤ what - 10 ∧ what - 10 < yN Y) (g : 0 ≤ of ∧ of < yN Y) : toldS Y y st of what = st of.toNat (what - 10).toNat := (tdO (by omega) g).trans (if_pos e)
theorem tdN {of what : Int} (e : what < 0 ∨ 7 < what) (f : ¬ (0 ≤ what - 10 ∧ what - 10 < yN Y)) : toldS Y y st of what = -2 := by
  by_cases g : 0 ≤ of ∧ of < yN Y
  · exact (tdO e g).trans (if_neg f)
  · exact tdB (by omega) (by omega) g
theorem sub10 {v : Int32} (h : 10 ≤ v.toInt) : (v - 10).toInt = v.toInt - 10 := by
  have := lt32 v
  exact i_sub rfl (by decide) (by omega) (by omega)
theorem mtold_ok (H : SM Y y st h) (n : mNo h) {v1 v2 : Int32} : Al (f_X7_told v1 v2 h) (fun o => o.1 = toldS Y y st v1.toInt v2.toInt ∧ mFr o.2 h) := by
  obtain ⟨H0, H1, H2, H3, H4, H5, -⟩ := id H
  unfold f_X7_told
  have l0 := L0
  have l7 := L7
  have l10 := L10
  have l17 := L17
  have hh : ∀ i : Nat, i < yN Y → h 4 i = yK Y i ∧ h 5 i = yB Y i ∧ h 6 i = yT Y i := H4
  have small : ∀ (_ : ¬ (7 : Int) < v2.toInt ∧ ¬ v2.toInt < 0) (_ : ¬ 1 < v2.toInt ∨ (0 ≤ v1.toInt ∧ v1.toInt < yN Y)), Al (if v2.toInt < 5 then (if v2.toInt = 0 then (some ((h 0 7), h)) else (if v2.toInt = 1 then (some ((h 0 8), h)) else (if v2.toInt = 2 then (if 0 ≤ v1.toInt ∧ v1.toInt < 8 then (some ((h 5 (v1.toInt.toNat)), h)) else none) else (if v2.toInt = 3 then (if 0 ≤ v1.toInt ∧ v1.toInt < 8 then (some ((h 6 (v1.toInt.toNat)), h)) else none) else (if 0 ≤ v1.toInt ∧ v1.toInt < 8 then (some ((h 4 (v1.toInt.toNat)), h)) else none))))) else (if 5 < v2.toInt then (if v2.toInt = 6 then (oP (f_X7_seatsOf v1 h) (fun r29 => some (r29, h))) else (oI (f_X7_soundsOf v1 h) (fun r30 g31 => some (r30, g31)))) else (l_X7_told_171 v1 h (fun v4_37 => some (v4_37, h)) fuel0 0 0 ))) (fun o => o.1 = toldS Y y st v1.toInt v2.toInt ∧ mFr o.2 h) := by
    intro a b
    refine al_ite (fun c5 => al_ite (fun c => al_some ⟨by rw [td0 c]; exact H0, mFr.refl h⟩) (fun c0 => al_ite (fun c => al_some ⟨by rw [td1 c]; exact H1, mFr.refl h⟩) (fun c1 => al_ite (fun c => al_ite (fun _ => al_some ⟨by rw [td2 c (by omega)]; exact (hh _ (by omega)).2.1, mFr.refl h⟩) (fun _ => al_none)) (fun c2 => al_ite (fun c => al_ite (fun _ => al_some ⟨by rw [td3 c (by omega)]; exact (hh _ (by omega)).2.2, mFr.refl h⟩) (fun _ => al_none)) (fun c3 => al_ite (fun _ => al_some ⟨by rw [td4 (by omega) (by omega)]; exact (hh _ (by omega)).1, mFr.refl h⟩) (fun _ => al_none)))))) (fun c5 => al_ite (fun c6 => al_ite (fun c => al_oP (fun r hr => al_some ⟨?_, mFr.refl h⟩)) (fun c => al_oI (fun r g hr => al_some ?_))) (fun c6 => ?_))
    · rw [td6 c (by omega)]
      exact seatsOf_ok H (i := v1.toInt.toNat) (by omega) (by omega) r hr
    · rw [td7 (by omega) (by omega)]
      exact soundsOf_ok H (i := v1.toInt.toNat) (by omega) (by omega) (r, g) hr
    · refine macq (K := knS Y st) (N := yN Y) (H.kn n) H2 H3 (i := v1.toInt.toNat) (by omega) (by omega) (al_some ⟨?_, mFr.refl h⟩) _ 0 0 (by decide) (by rw [ti0]; omega) rfl
      rw [td5 (by omega) (by omega)]
  have bad : ¬ v2.toInt = 0 → ¬ v2.toInt = 1 → ¬ (0 ≤ v1.toInt ∧ v1.toInt < yN Y) → Al (some ((-2 : Int32), h)) (fun o => o.1 = toldS Y y st v1.toInt v2.toInt ∧ mFr o.2 h) := fun a b c => al_some ⟨by rw [tdB a b c], mFr.refl h⟩
  have bad2 : (v2.toInt < 0 ∨ 7 < v2.toInt) → ¬ (0 ≤ v2.toInt - 10 ∧ v2.toInt - 10 < yN Y) → Al (some ((-2 : Int32), h)) (fun o => o.1 = toldS Y y st v1.toInt v2.toInt ∧ mFr o.2 h) := fun a b => al_some ⟨by rw [tdN a b], mFr.refl h⟩
  have oth : 10 ≤ v2.toInt → v2.toInt - 10 < yN Y → 0 ≤ v1.toInt ∧ v1.toInt < yN Y → Al (oP (f_X7_strengthOf v1 (v2 - 10) h) (fun r124 => some (r124, h))) (fun o => o.1 = toldS Y y st v1.toInt v2.toInt ∧ mFr o.2 h) := by
    intro a b c
    have s10 := sub10 a
    refine al_oP (fun r hr => al_some ⟨?_, mFr.refl h⟩)
    have e := strengthOf_ok (i := v1.toInt.toNat) (j := (v2.toInt - 10).toNat) (by omega) (by omega) (by omega) (by omega) r hr
    rw [tdS (by omega) c, ← H5 _ _ (by omega) (by omega)]
    exact e
  refine al_in (fun r1 q1 => al_ite (fun z1 => al_in (fun r4 q4 => al_ite (fun z4 => bad2 (by omega) (by omega)) (fun z4 => al_ite (fun c1 => al_house7 H2 H3 (fun r9 q9 => al_ite (fun z9 => bad (by omega) (by omega) (by omega)) (fun z9 => small (by omega) (by omega)))) (fun c1 => small (by omega) (by omega))))) (fun z1 => al_house7 H2 H3 (fun r61 q61 => ?_)))
  have s10 := sub10 (v := v2) (by omega)
  refine al_ite (fun z61 => al_in (fun r64 q64 => al_ite (fun z64 => bad2 (by omega) (by omega)) (fun z64 => absurd z64 (by omega)))) (fun z61 => al_in (fun r116 q116 => al_ite (fun z => al_ite (fun _ => al_house7 H2 H3 (fun r121 q121 => al_ite (fun z2 => bad (by omega) (by omega) (by omega)) (fun z2 => oth (by omega) (by omega) (by omega)))) (fun z2 => absurd z2 (by omega))) (fun z => absurd z (by omega))))
end TD
def Op2 (t u : Option (Int32 × dH)) : Prop := Al t (fun o => Al u (fun o2 => o.1 = o2.1 ∧ RR o.2 o2.2))
theorem Op2.of {t u : Option (Int32 × dH)} {hC hM : dH} (q : RR hC hM) {x : Int32} (h1 : Al t (fun o => o.1 = x ∧ cV o.2 hC)) (h2 : Al u (fun o => o.1 = x ∧ bFr o.2 hM)) : Op2 t u := fun o ho o2 ho2 => by
  obtain ⟨a1, a2⟩ := h1 o ho
  obtain ⟨b1, b2⟩ := h2 o2 ho2
  exact ⟨a1.trans b1.symm, q.keep a2 b2⟩
theorem op_told {hC hM : dH} (q : RR hC hM) (v1 v2 : Int32) : Op2 (f_X6_told v1 v2 hC) (f_X7_told v1 v2 hM) := by
  obtain ⟨C, M, W, R, T⟩ := q.st
  obtain ⟨C0, C1, C2, C3, C4, C5, -⟩ := id C
  refine Op2.of q (x := toldS (yOf 43 hC) (hC 43 0) (stOf 43 hC) v1.toInt v2.toInt) ?_ (al_mono (mtold_ok M q.2.2.2.2.2) (fun o h => ⟨h.1, h.2.b⟩))
  unfold f_X6_told
  have setq : ∀ {α : Type} (f : Int32 → Option α) (P : α → Prop), (v2.toInt = 0 → Al (f (hC 43 0)) P) → (v2.toInt = 1 → Al (f (hC 43 1)) P) → (v2.toInt = 2 → Al (f (hC 45 v1.toInt.toNat)) P) → (¬ v2.toInt = 0 → ¬ v2.toInt = 1 → ¬ v2.toInt = 2 → Al (f (hC 46 v1.toInt.toNat)) P) → Al (oP (f_X6_setting v2 v1 hC) f) P := by
    intro α f P a0 a1 a2 a3
    refine al_oP (fun r => ?_)
    unfold f_X6_setting
    by_cases c0 : v2.toInt = 0
    · rw [if_pos c0]
      intro hr; cases hr; exact a0 c0
    · rw [if_neg c0]
      by_cases c1 : v2.toInt = 1
      · rw [if_pos c1]
        intro hr; cases hr; exact a1 c1
      · rw [if_neg c1]
        by_cases c2 : v2.toInt = 2
        · rw [if_pos c2]
          by_cases d : 0 ≤ v1.toInt ∧ v1.toInt < 8
          · rw [if_pos d]; intro hr; cases hr; exact a2 c2
          · rw [if_neg d]; intro hr; cases hr
        · rw [if_neg c2]
          by_cases d : 0 ≤ v1.toInt ∧ v1.toInt < 8
          · rw [if_pos d]; intro hr; cases hr; exact a3 c0 c1 c2
          · rw [if_neg d]; intro hr; cases hr
  have rf := cV.refl hC
  refine al_ite (fun c0 => setq _ _ (fun _ => al_some ⟨(td0 c0).symm, rf⟩) (fun z => by omega) (fun z => by omega) (fun z => absurd c0 z)) (fun c0 => al_ite (fun c1 => setq _ _ (fun z => by omega) (fun _ => al_some ⟨(td1 (Y := yOf 43 hC) (y := hC 43 0) (st := stOf 43 hC) c1).symm, rf⟩) (fun z => by omega) (fun _ z => absurd c1 z)) (fun c1 => al_house6 C2 (fun r7 q7 => al_ite (fun z7 => al_some ⟨(tdB c0 c1 (by omega)).symm, rf⟩) (fun z7 => ?_))))
  have g : 0 ≤ v1.toInt ∧ v1.toInt < yN (yOf 43 hC) := by omega
  refine al_ite (fun c2 => setq _ _ (fun z => absurd z c0) (fun z => absurd z c1) (fun _ => al_some ⟨(td2 c2 g).symm, rf⟩) (fun _ _ z => absurd c2 z)) (fun c2 => al_ite (fun c3 => setq _ _ (fun z => absurd z c0) (fun z => absurd z c1) (fun z => absurd z c2) (fun _ _ _ => al_some ⟨(td3 c3 g).symm, rf⟩)) (fun c3 => al_ite (fun c4 => al_ite (fun _ => al_some ⟨(td4 c4 g).symm, rf⟩) (fun _ => al_none)) (fun c4 => al_ite (fun c5 => al_oP (fun r hr => al_some ⟨?_, rf⟩)) (fun c5 => al_ite (fun c6 => al_ite (fun _ => al_oP (fun r hr => al_some ⟨?_, rf⟩)) (fun _ => al_none)) (fun c6 => al_ite (fun c7 => al_oI (fun r g hr => al_some ?_)) (fun c7 => ?_))))))
  · rw [td5 c5 g]
    exact acq_ok C.kn C2 C3 (i := v1.toInt.toNat) (by omega) (by omega) r hr
  · rw [td6 c6 g]
    have := seatsAt_ok C r hr
    exact this
  · obtain ⟨x1, x2⟩ := sounds_ok (Or.inl rfl) C (i := v1.toInt.toNat) (by omega) (by omega) (W.2 _ (by omega)) (r, g) hr
    exact ⟨x1.trans (td7 c7 (by omega)).symm, x2.v (Or.inl rfl)⟩
  · have small : 0 ≤ v2.toInt → v2.toInt ≤ 7 → False := fun a b => by omega
    refine al_house6 C2 (fun r30 q30 => ?_)
    have lt := lt32 v2
    by_cases big : v2.toInt < -2147483638
    · -- the sum wraps: no house has such a number
      have e : (v2 - 10).toInt = v2.toInt - 10 + 4294967296 := by
        rw [Int32.toInt_sub, show (10 : Int32).toInt = 10 by decide, show (2 : Nat) ^ 32 = 4294967296 from rfl]
        unfold Int.bmod
        simp only
        split <;> omega
      refine al_ite (fun z => al_some ⟨(tdN (by omega) (by omega)).symm, rf⟩) (fun z => absurd z (by omega))
    · have e : (v2 - 10).toInt = v2.toInt - 10 := i_sub rfl (by decide) (by omega) (by omega)
      refine al_ite (fun z => al_some ⟨(tdN (by omega) (by omega)).symm, rf⟩) (fun z => al_ite (fun _ => al_ite (fun _ => al_some ⟨?_, rf⟩) (fun _ => al_none)) (fun _ => al_none))
      rw [tdS (by omega) g, e]
      rfl
end
end
