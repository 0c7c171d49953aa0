/-! feasts and years: the reference -/
noncomputable section
theorem within99 {v : Int32} : Al (f_X7_within v 0 99) (fun r => r = w99 v) := by
  unfold f_X7_within w99
  rw [ti0, show (99 : Int32).toInt = 99 by decide]
  exact al_ite (fun c => al_some (by rw [if_pos c])) (fun c => al_ite (fun d => al_some (by rw [if_neg c, if_pos d])) (fun d => al_some (by rw [if_neg c, if_neg d])))
/-- all but its names, its reading, strengths, YEAR -/
def gFr (g h : dH) : Prop := ∀ a k, ¬ (a = 0 ∧ 14 ≤ k ∧ k ≤ 28) → ¬ (a = 0 ∧ k = 7) → ¬ a = 7 → g a k = h a k
theorem gFr.refl (h : dH) : gFr h h := fun _ _ _ _ _ => rfl
theorem gFr.trans {f g h : dH} (q : gFr f g) (r : gFr g h) : gFr f h := fun a k x y z => (q a k x y z).trans (r a k x y z)
theorem mFr.g {g h : dH} (q : mFr g h) : gFr g h := fun a k x _ _ => q a k x
theorem binds_ok {h : dH} {Y : zY} {y : Int32} {st : zT2} (H : SM Y y st h) {v1 v2 v3 : Int32} {i j : Nat} (h1 : v1.toInt = i) (h2 : v2.toInt = j) (hi : i < yN Y) (hj : j < yN Y) : Al (f_X7_binds v1 v2 v3 h) (fun g => SM Y y (tieS st i j (w99 v3)) g ∧ gFr g h) := by
  obtain ⟨h0, h1', h2', h3, h4, h5, h6⟩ := H
  unfold f_X7_binds
  obtain ⟨-, e1⟩ := ix8 h1 h2 (by omega) (by omega)
  obtain ⟨-, e2⟩ := ix8 h2 h1 (by omega) (by omega)
  rw [e1, e2]
  refine al_oP (fun r1 hr => al_ite (fun _ => al_oH' (fun g2 q2 => al_ite (fun _ => al_oH' (fun g q4 => al_some ?_)) (fun _ => al_none))) (fun _ => al_none))
  have er := within99 r1 hr
  subst er
  have e : ∀ b k, ¬ b = 7 → g b k = h b k := fun b k hb => by rw [q4, dU_ne (by omega), q2, dU_ne (by omega)]
  refine ⟨⟨by rw [e 0 7 (by omega)]; exact h0, by rw [e 0 8 (by omega)]; exact h1', by rw [e 0 13 (by omega)]; exact h2', h3, fun p hp => ?_, fun p q hp hq => ?_, h6.same (fun k => e 1 k (by omega)) (fun k => e 2 k (by omega)) (e 0 4 (by omega))⟩, fun a k _ _ x => e a k x⟩
  · rw [e 4 p (by omega), e 5 p (by omega), e 6 p (by omega)]; exact h4 p hp
  · unfold tieS
    rw [q4, q2]
    by_cases c : p = j ∧ q = i
    · rw [if_pos (Or.inr c), c.1, c.2, dU_eq]
    · rw [dU_ne (by omega)]
      by_cases d : p = i ∧ q = j
      · rw [if_pos (Or.inl d), d.1, d.2, dU_eq]
      · rw [dU_ne (by omega), if_neg (by omega)]
        exact h5 p q hp hq
theorem SM.lt {Y : zY} {y : Int32} {st : zT2} {h : dH} (H : SM Y y st h) {v : Int32} : v.toInt < (h 0 13).toInt ↔ v.toInt < yN Y := by
  rw [H.2.2.1]
theorem feasts_14 {Y : zY} {y : Int32} {st : zT2} {k : dH → Option dH} {P : dH → Prop} {v1 : Int32} {i : Nat} (h1 : v1.toInt = i) (hi : i < yN Y) : ∀ (n : Nat) (v2 : Int32) (h : dH), i < v2.toInt → v2.toInt ≤ yN Y → SM Y y (fIn (fsStep Y y) i v2.toInt.toNat st) h → (∀ g, SM Y y (fIn (fsStep Y y) i (yN Y) st) g → gFr g h → Al (k g) P) → Al (l_X7_feasts_14 v1 k n v2 h) P
  | 0, _, _, _, _, _, _ => al_none
  | n + 1, v2, h, p0, p1, H, K => by
    rw [l_X7_feasts_14]
    obtain ⟨H0, H1, H2, H3, H4, H5, -⟩ := id H
    have e1 : v1.toInt.toNat = i := by omega
    have t2 := inc1 (v := v2) (by omega)
    obtain ⟨j, hj⟩ : ∃ j, v2.toInt.toNat = j := ⟨_, rfl⟩
    have en : (v2 + 1).toInt.toNat = j + 1 := by omega
    rw [hj] at H H5
    rw [e1, hj, H2]
    have nx : v2.toInt < yN Y → ∀ g, SM Y y (fsStep Y y i j (fIn (fsStep Y y) i j st)) g → gFr g h → Al (l_X7_feasts_14 v1 k n (v2 + 1) g) P := by
      intro hlt g Hg hg
      have ei : fIn (fsStep Y y) i (v2 + 1).toInt.toNat st = fsStep Y y i j (fIn (fsStep Y y) i j st) := by rw [en, fIn, if_pos (by omega)]
      exact feasts_14 h1 hi n (v2 + 1) g (by omega) (by omega) (by rw [ei]; exact Hg) (fun g' x1 x3 => K g' x1 (x3.trans hg))
    refine al_ite (fun c => al_ite (fun _ => ?_) (fun _ => al_none)) (fun c => ?_)
    · rw [(H4 i hi).2.2, (H4 j (by omega)).2.2]
      refine al_ite (fun d => nx (by omega) h (by unfold fsStep; rw [if_pos d]; exact H) (gFr.refl _)) (fun d => al_ite (fun _ => al_ite (fun _ => al_ite (fun d2 => al_oI (fun r12 g13 q13 => al_oI (fun r14 g15 q15 => al_oP (fun r16 hr16 => al_oV' (fun g18 q18 => ?_))))) (fun d2 => nx (by omega) h (by unfold fsStep; rw [if_neg d, if_neg d2]; exact H) (gFr.refl _))) (fun _ => al_none)) (fun _ => al_none))
      have hjN : j < yN Y := by omega
      have h2j : v2.toInt = j := by omega
      obtain ⟨m1, m2⟩ := meetsOf_ok H h1 h2j hi hjN (r12, g13) q13
      simp only at m1 m2
      obtain ⟨m3, m4⟩ := meetsOf_ok (H.n m2) h2j h1 hjN hi (r14, g15) q15
      simp only at m3 m4
      have m5 := m4.trans m2
      have es := strengthOf_ok h1 h2j (by omega) (by omega) r16 hr16
      rw [m5 _ _ (by omega), H5 i j hi hjN] at es
      obtain ⟨x1, x2⟩ := binds_ok (H.n m5) h1 h2j hi hjN g18 q18
      refine nx (by omega) g18 ?_ (x2.trans m5.g)
      unfold fsStep
      rw [if_neg d, if_pos d2]
      rw [es, m1, m3] at x1
      exact x1
    · have ej : j = yN Y := by omega
      rw [ej] at H
      exact K h H (gFr.refl _)
theorem feasts_2 {Y : zY} {y : Int32} {st : zT2} {k : dH → Option dH} {P : dH → Prop} : ∀ (n : Nat) (v1 : Int32) (h : dH), 0 ≤ v1.toInt → v1.toInt ≤ yN Y → SM Y y (fOut (fsStep Y y) (yN Y) v1.toInt.toNat st) h → (∀ g, SM Y y (feastS Y y st) g → gFr g h → Al (k g) P) → Al (l_X7_feasts_2 k n v1 h) P
  | 0, _, _, _, _, _, _ => al_none
  | n + 1, v1, h, p0, p1, H, K => by
    rw [l_X7_feasts_2]
    have hN := H.2.2.2.1
    have t1 := inc1 (v := v1) (by omega)
    refine al_ite (fun c => ?_) (fun c => ?_)
    · have c' := H.lt.mp c
      have e2 : (v1 + 1).toInt.toNat = v1.toInt.toNat + 1 := by omega
      have el : fIn (fsStep Y y) v1.toInt.toNat (v1 + 1).toInt.toNat (fOut (fsStep Y y) (yN Y) v1.toInt.toNat st) = fOut (fsStep Y y) (yN Y) v1.toInt.toNat st := fIn_le _ (by omega)
      have eo : fIn (fsStep Y y) v1.toInt.toNat (yN Y) (fOut (fsStep Y y) (yN Y) v1.toInt.toNat st) = fOut (fsStep Y y) (yN Y) (v1 + 1).toInt.toNat st := by rw [e2]; rfl
      refine feasts_14 (Y := Y) (i := v1.toInt.toNat) (by omega) (by omega) _ (v1 + 1) h (by omega) (by omega) (by rw [el]; exact H) (fun g x1 x3 => ?_)
      rw [eo] at x1
      exact feasts_2 n (v1 + 1) g (by omega) (by omega) x1 (fun g' z1 z3 => K g' z1 (z3.trans x3))
    · have c' : ¬ v1.toInt < yN Y := fun z => c (H.lt.mpr z)
      have ej : v1.toInt.toNat = yN Y := by omega
      rw [ej] at H
      exact K h H (gFr.refl _)
theorem feasts_ok {Y : zY} {y : Int32} {st : zT2} {h : dH} (H : SM Y y st h) : Al (f_X7_feasts h) (fun g => SM Y y (feastS Y y st) g ∧ gFr g h) :=
  feasts_2 _ 0 h (by decide) (by rw [ti0]; omega) H (fun g x1 x3 => al_some ⟨x1, x3⟩)
theorem fades_14 {Y : zY} {y : Int32} {st : zT2} {k : dH → Option dH} {P : dH → Prop} {v1 : Int32} {i : Nat} (h1 : v1.toInt = i) (hi : i < yN Y) : ∀ (n : Nat) (v2 : Int32) (h : dH), i < v2.toInt → v2.toInt ≤ yN Y → SM Y y (fIn (yrStep Y y) i v2.toInt.toNat st) h → (∀ g, SM Y y (fIn (yrStep Y y) i (yN Y) st) g → gFr g h → Al (k g) P) → Al (l_X7_fades_14 v1 k n v2 h) P
  | 0, _, _, _, _, _, _ => al_none
  | n + 1, v2, h, p0, p1, H, K => by
    rw [l_X7_fades_14]
    obtain ⟨H0, H1, H2, H3, H4, H5, -⟩ := id H
    have e1 : v1.toInt.toNat = i := by omega
    have t2 := inc1 (v := v2) (by omega)
    obtain ⟨j, hj⟩ : ∃ j, v2.toInt.toNat = j := ⟨_, rfl⟩
    have en : (v2 + 1).toInt.toNat = j + 1 := by omega
    rw [hj] at H H5
    rw [H2]
    refine al_ite (fun c => al_oI (fun r12 g13 q13 => al_oI (fun r14 g15 q15 => al_oP (fun r16 hr16 => al_oV' (fun g18 q18 => ?_))))) (fun c => ?_)
    · have hjN : j < yN Y := by omega
      have h2j : v2.toInt = j := by omega
      obtain ⟨m1, m2⟩ := fadesOf_ok H h1 h2j hi hjN (r12, g13) q13
      simp only at m1 m2
      obtain ⟨m3, m4⟩ := fadesOf_ok (H.n m2) h2j h1 hjN hi (r14, g15) q15
      simp only at m3 m4
      have m5 := m4.trans m2
      have es := strengthOf_ok h1 h2j (by omega) (by omega) r16 hr16
      rw [m5 _ _ (by omega), H5 i j hi hjN] at es
      obtain ⟨x1, x2⟩ := binds_ok (H.n m5) h1 h2j hi hjN g18 q18
      rw [es, m1, m3] at x1
      have ei : fIn (yrStep Y y) i (v2 + 1).toInt.toNat st = yrStep Y y i j (fIn (yrStep Y y) i j st) := by rw [en, fIn, if_pos (by omega)]
      refine fades_14 h1 hi n (v2 + 1) g18 (by omega) (by omega) (by rw [ei]; exact x1) (fun g' z1 z3 => K g' z1 (z3.trans (x2.trans m5.g)))
    · have ej : j = yN Y := by omega
      rw [ej] at H
      exact K h H (gFr.refl _)
theorem fades_2 {Y : zY} {y : Int32} {st : zT2} {k : dH → Option dH} {P : dH → Prop} : ∀ (n : Nat) (v1 : Int32) (h : dH), 0 ≤ v1.toInt → v1.toInt ≤ yN Y → SM Y y (fOut (yrStep Y y) (yN Y) v1.toInt.toNat st) h → (∀ g, SM Y y (fadeS Y y st) g → gFr g h → Al (k g) P) → Al (l_X7_fades_2 k n v1 h) P
  | 0, _, _, _, _, _, _ => al_none
  | n + 1, v1, h, p0, p1, H, K => by
    rw [l_X7_fades_2]
    have hN := H.2.2.2.1
    have t1 := inc1 (v := v1) (by omega)
    refine al_ite (fun c => ?_) (fun c => ?_)
    · have c' := H.lt.mp c
      have e2 : (v1 + 1).toInt.toNat = v1.toInt.toNat + 1 := by omega
      have el : fIn (yrStep Y y) v1.toInt.toNat (v1 + 1).toInt.toNat (fOut (yrStep Y y) (yN Y) v1.toInt.toNat st) = fOut (yrStep Y y) (yN Y) v1.toInt.toNat st := fIn_le _ (by omega)
      have eo : fIn (yrStep Y y) v1.toInt.toNat (yN Y) (fOut (yrStep Y y) (yN Y) v1.toInt.toNat st) = fOut (yrStep Y y) (yN Y) (v1 + 1).toInt.toNat st := by rw [e2]; rfl
      refine fades_14 (Y := Y) (i := v1.toInt.toNat) (by omega) (by omega) _ (v1 + 1) h (by omega) (by omega) (by rw [el]; exact H) (fun g x1 x3 => ?_)
      rw [eo] at x1
      exact fades_2 n (v1 + 1) g (by omega) (by omega) x1 (fun g' z1 z3 => K g' z1 (z3.trans x3))
    · have c' : ¬ v1.toInt < yN Y := fun z => c (H.lt.mpr z)
      have ej : v1.toInt.toNat = yN Y := by omega
      rw [ej] at H
      exact K h H (gFr.refl _)
theorem SM.year {Y : zY} {y x : Int32} {st : zT2} {h : dH} (H : SM Y y st h) : SM Y x st (dU h 0 7 x) := by
  obtain ⟨h0, h1, h2, h3, h4, h5, h6⟩ := H
  have e : ∀ b k, ¬ (b = 0 ∧ k = 7) → dU h 0 7 x b k = h b k := fun b k q => dU_ne q
  refine ⟨dU_eq, by rw [e 0 8 (by omega)]; exact h1, by rw [e 0 13 (by omega)]; exact h2, h3, fun i hi => ?_, fun i j hi hj => ?_, h6.same (fun k => e 1 k (by omega)) (fun k => e 2 k (by omega)) (e 0 4 (by omega))⟩
  · rw [e 4 i (by omega), e 5 i (by omega), e 6 i (by omega)]; exact h4 i hi
  · rw [e 7 _ (by omega)]; exact h5 i j hi hj
theorem fades_ok {Y : zY} {y : Int32} {st : zT2} {h : dH} (H : SM Y y st h) : Al (f_X7_fades h) (fun g => SM Y (y + 1) (fadeS Y y st) g ∧ gFr g h) := by
  refine fades_2 _ 0 h (by decide) (by rw [ti0]; omega) H (fun g x1 x3 => al_oH' (fun g2 q2 => al_some ?_))
  have e0 : g 0 7 = y := x1.1
  rw [e0] at q2
  refine ⟨by rw [q2]; exact x1.year, fun b k n1 n2 n3 => ?_⟩
  rw [q2, dU_ne n2]
  exact x3 b k n1 n2 n3
/-! years in thought -/
def liveS (Y : zY) (y : Int32) (st : zT2) : Nat → Int32 × zT2
  | 0 => (y, st)
  | n + 1 => ((liveS Y y st n).1 + 1, fadeS Y (liveS Y y st n).1 (feastS Y (liveS Y y st n).1 (liveS Y y st n).2))
theorem Wf.live {Y : zY} {y : Int32} {st : zT2} (W : Wf (yN Y) st) : ∀ n, Wf (yN Y) (liveS Y y st n).2
  | 0 => W
  | n + 1 => (Wf.live W n).feast.fade
theorem lives_2 {Y : zY} {y : Int32} {st : zT2} {k : dH → Option dH} {P : dH → Prop} {v1 : Int32} {m : Nat} (hv : v1.toInt = m) (hm : m < 1000) : ∀ (n : Nat) (v2 : Int32) (h : dH), 0 ≤ v2.toInt → v2.toInt ≤ m → SM Y (liveS Y y st v2.toInt.toNat).1 (liveS Y y st v2.toInt.toNat).2 h → (∀ g, SM Y (liveS Y y st m).1 (liveS Y y st m).2 g → gFr g h → Al (k g) P) → Al (l_X7_lives_2 v1 k n v2 h) P
  | 0, _, _, _, _, _, _ => al_none
  | n + 1, v2, h, p0, p1, H, K => by
    rw [l_X7_lives_2]
    have t1 := inc1 (v := v2) (by omega)
    refine al_ite (fun c => al_oV' (fun g3 q3 => al_oV' (fun g4 q4 => ?_))) (fun c => ?_)
    · obtain ⟨x1, x2⟩ := feasts_ok H g3 q3
      obtain ⟨x3, x4⟩ := fades_ok x1 g4 q4
      have e2 : (v2 + 1).toInt.toNat = v2.toInt.toNat + 1 := by omega
      exact lives_2 hv hm n (v2 + 1) g4 (by omega) (by omega) (by rw [e2]; exact x3) (fun g' z1 z2 => K g' z1 (z2.trans (x4.trans x2)))
    · have e : v2.toInt.toNat = m := by omega
      rw [e] at H
      exact K h H (gFr.refl _)
theorem lives_ok {Y : zY} {y : Int32} {st : zT2} {v1 : Int32} {m : Nat} (hv : v1.toInt = m) (hm : m < 1000) {h : dH} (H : SM Y y st h) : Al (f_X7_lives v1 h) (fun g => SM Y (liveS Y y st m).1 (liveS Y y st m).2 g ∧ gFr g h) :=
  lives_2 hv hm _ 0 h (by decide) (by rw [ti0]; omega) H (fun g x1 x2 => al_some ⟨x1, x2⟩)
end
