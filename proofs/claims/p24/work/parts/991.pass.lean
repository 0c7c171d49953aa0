/-! years in thought, laid aside and back; quiet tables; seats -/
noncomputable section
theorem SC.keep {a : Nat} (ha : zS a) {Y : zY} {y : Int32} {st : zT2} {g h : dH} (H : SC a Y y st h) (e : ∀ b k, (a ≤ b ∧ b ≤ a + 12) ∨ (11 ≤ b ∧ b ≤ 32 ∧ (b % 4 = 3 ∨ b % 4 = 0)) → g b k = h b k) : SC a Y y st g := by
  have z := zS_or ha
  obtain ⟨h0, h1, h2, h3, h4, h5, h6, h7, h8⟩ := H
  have t := dtx_or (h a 3)
  have e3 : g a 3 = h a 3 := e a 3 (by omega)
  obtain ⟨c1, c2, c3⟩ := tEv_congr (f := g) (g := h) (ta := dtx (h a 3)) (fun k => e _ k (by omega)) (fun k => e _ k (by omega))
  refine ⟨by rw [e a 0 (by omega)]; exact h0, by rw [e a 1 (by omega)]; exact h1, by rw [e a 2 (by omega)]; exact h2, h3, fun i hi => ?_, fun i j hi hj => ?_, ?_, ?_, ?_⟩
  · rw [e (a + 1) i (by omega), e (a + 2) i (by omega), e (a + 3) i (by omega)]; exact h4 i hi
  · rw [e (a + 5 + i) j (by omega)]; exact h5 i j hi hj
  · rw [e3]; exact c1.mpr h6
  · rw [e3]; exact fun nm pt hp => by rw [c2]; exact h7 nm pt hp
  · rw [e3]; exact fun pt nm hp => by rw [c3]; exact h8 pt nm hp
/-- a street that became as another one -/
def becQ (a c : Nat) (g h : dH) : Prop := g a 0 = h c 0 ∧ g a 1 = h c 1 ∧ g a 2 = h c 2 ∧ dtx (g a 3) = dtx (h c 3) ∧ (∀ k, k < 8 → g (a + 1) k = h (c + 1) k ∧ g (a + 2) k = h (c + 2) k ∧ g (a + 3) k = h (c + 3) k) ∧ (∀ i k, i < 8 → k < 8 → g (a + 5 + i) k = h (c + 5 + i) k) ∧ ∀ b k, ¬ (a ≤ b ∧ b ≤ a + 12) → g b k = h b k
theorem become_79 {a c : Nat} (ha : zS a) (hc : zS c) (hac : ¬ a = c) {h0 : dH} : ∀ (n : Nat) (v2 : Int32) (h : dH), 0 ≤ v2.toInt → v2.toInt ≤ 8 → (∀ i k, i < v2.toInt.toNat → k < 8 → h (a + 5 + i) k = h0 (c + 5 + i) k) → (∀ b k, ¬ (a + 5 ≤ b ∧ b ≤ a + 12) → h b k = h0 b k) → Al (l_X3_become_79 a c (fun g => some g) n v2 h) (fun g => (∀ i k, i < 8 → k < 8 → g (a + 5 + i) k = h0 (c + 5 + i) k) ∧ ∀ b k, ¬ (a + 5 ≤ b ∧ b ≤ a + 12) → g b k = h0 b k)
  | 0, _, _, _, _, _, _ => al_none
  | n + 1, v2, h, p0, p1, h1, h2 => by
    have z := zS_or ha
    have zc := zS_or hc
    rw [l_X3_become_79]
    have t := inc1 (v := v2) (by omega)
    have en : (v2 + 1).toInt.toNat = v2.toInt.toNat + 1 := by omega
    refine al_ite (fun c1 => al_ite (fun _ => al_ite (fun _ => al_oH' (fun g hg => ?_)) (fun _ => al_none)) (fun _ => al_none)) (fun c1 => al_some ⟨fun i k hi hk => h1 i k (by omega) hk, h2⟩)
    refine become_79 ha hc hac n (v2 + 1) g (by omega) (by omega) (fun i k hi hk => ?_) (fun b k q => ?_)
    · rw [hg]
      unfold dcopy
      by_cases e : i = v2.toInt.toNat
      · subst e
        rw [if_pos ⟨rfl, by omega, by omega⟩, Nat.sub_zero, Nat.zero_add]
        exact h2 _ _ (by omega)
      · rw [if_neg (by omega)]
        exact h1 i k (by omega) hk
    · rw [hg]
      unfold dcopy
      rw [if_neg (by omega)]
      exact h2 b k q
theorem become_ok {a c : Nat} (ha : zS a) (hc : zS c) (hac : ¬ a = c) (h : dH) : Al (f_X3_become a c h) (fun g => becQ a c g h) := by
  have z := zS_or ha
  have zc := zS_or hc
  unfold f_X3_become
  refine al_oH' (fun g1 q1 => al_oH' (fun g2 q2 => al_oH' (fun g3 q3 => al_oH' (fun g4 q4 => al_oH' (fun g5 q5 => al_oH' (fun g6 q6 => al_oH' (fun g7 q7 => ?_)))))))
  have e4 : ∀ b k, ¬ (b = a ∧ k < 4) → g4 b k = h b k := fun b k q => by rw [q4, dU_ne (by omega), q3, dU_ne (by omega), q2, dU_ne (by omega), q1, dU_ne (by omega)]
  have e7 : ∀ b k, ¬ (b = a ∧ k < 4) → ¬ (b = a + 1 ∧ k < 8) → ¬ (b = a + 2 ∧ k < 8) → ¬ (b = a + 3 ∧ k < 8) → g7 b k = h b k := fun b k x0 x1 x2 x3 => by
    rw [q7]; unfold dcopy; rw [if_neg (by omega), q6]; unfold dcopy; rw [if_neg (by omega), q5]; unfold dcopy; rw [if_neg (by omega)]; exact e4 b k x0
  have ea : ∀ k, k < 4 → g7 a k = g4 a k := fun k hk => by
    rw [q7]; unfold dcopy; rw [if_neg (by omega), q6]; unfold dcopy; rw [if_neg (by omega), q5]; unfold dcopy; rw [if_neg (by omega)]
  refine al_mono (become_79 ha hc hac (h0 := g7) _ 0 g7 (by decide) (by decide) (fun i k hi _ => absurd hi (by rw [ti0]; omega)) (fun _ _ _ => rfl)) (fun g hg => ?_)
  obtain ⟨r1, r2⟩ := hg
  refine ⟨?_, ?_, ?_, ?_, fun k hk => ⟨?_, ?_, ?_⟩, fun i k hi hk => ?_, fun b k q => ?_⟩
  · rw [r2 _ _ (by omega), ea 0 (by omega), q4, dU_ne (by omega), q3, dU_ne (by omega), q2, dU_ne (by omega), q1, dU_eq]
  · rw [r2 _ _ (by omega), ea 1 (by omega), q4, dU_ne (by omega), q3, dU_ne (by omega), q2, dU_eq, q1, dU_ne (by omega)]
  · rw [r2 _ _ (by omega), ea 2 (by omega), q4, dU_ne (by omega), q3, dU_eq, q2, dU_ne (by omega), q1, dU_ne (by omega)]
  · rw [r2 _ _ (by omega), ea 3 (by omega), q4, dU_eq, dtx_dti (zT_dtx _), q3, dU_ne (by omega), q2, dU_ne (by omega), q1, dU_ne (by omega)]
  · rw [r2 _ _ (by omega), q7]; unfold dcopy; rw [if_neg (by omega), q6]; unfold dcopy; rw [if_neg (by omega), q5]; unfold dcopy; rw [if_pos ⟨rfl, by omega, by omega⟩, Nat.sub_zero, Nat.zero_add]
    exact e4 _ _ (by omega)
  · rw [r2 _ _ (by omega), q7]; unfold dcopy; rw [if_neg (by omega), q6]; unfold dcopy; rw [if_pos ⟨rfl, by omega, by omega⟩, Nat.sub_zero, Nat.zero_add, q5]; unfold dcopy; rw [if_neg (by omega)]
    exact e4 _ _ (by omega)
  · rw [r2 _ _ (by omega), q7]; unfold dcopy; rw [if_pos ⟨rfl, by omega, by omega⟩, Nat.sub_zero, Nat.zero_add, q6]; unfold dcopy; rw [if_neg (by omega), q5]; unfold dcopy; rw [if_neg (by omega)]
    exact e4 _ _ (by omega)
  · rw [r1 i k hi hk]
    exact e7 _ _ (by omega) (by omega) (by omega) (by omega)
  · rw [r2 b k (by omega)]
    exact e7 _ _ (by omega) (by omega) (by omega) (by omega)
theorem becQ.sc {a c : Nat} (ha : zS a) (hc : zS c) {Y : zY} {y : Int32} {st : zT2} {g h : dH} (q : becQ a c g h) (H : SC c Y y st h) : SC a Y y st g := by
  have z := zS_or ha
  have zc := zS_or hc
  obtain ⟨q0, q1, q2, q3, q4, q5, q6⟩ := q
  obtain ⟨h0, h1, h2, h3, h4, h5, h6, h7, h8⟩ := H
  have t := dtx_or (h c 3)
  obtain ⟨c1, c2, c3⟩ := tEv_congr (f := g) (g := h) (ta := dtx (h c 3)) (fun k => q6 _ k (by omega)) (fun k => q6 _ k (by omega))
  refine ⟨q0.trans h0, q1.trans h1, by rw [q2]; exact h2, h3, fun i hi => ?_, fun i j hi hj => ?_, ?_, ?_, ?_⟩
  · obtain ⟨x1, x2, x3⟩ := q4 i (by omega)
    rw [x1, x2, x3]; exact h4 i hi
  · rw [q5 i j (by omega) (by omega)]; exact h5 i j hi hj
  · rw [q3]; exact c1.mpr h6
  · rw [q3]; exact fun nm pt hp => by rw [c2]; exact h7 nm pt hp
  · rw [q3]; exact fun pt nm hp => by rw [c3]; exact h8 pt nm hp
/-- the class's years in thought -/
theorem pass_2 {a : Nat} (ha : zS a) {Y : zY} (hY : Yr Y) {y : Int32} {st : zT2} (W : Wf (yN Y) st) {k : dH → Option (Int32 × dH)} {P : Int32 × dH → Prop} {v1 : Int32} {m : Nat} (hv : v1.toInt = m) (hm : m < 1000) : ∀ (n : Nat) (v2 : Int32) (h : dH), 0 ≤ v2.toInt → v2.toInt ≤ m → SC a Y (liveS Y y st v2.toInt.toNat).1 (liveS Y y st v2.toInt.toNat).2 h → (∀ g, SC a Y (liveS Y y st m).1 (liveS Y y st m).2 g → fFr a (yN Y) g h → Al (k g) P) → Al (l_X3_pass_2 a v1 k n v2 h) P
  | 0, _, _, _, _, _, _ => al_none
  | n + 1, v2, h, p0, p1, H, K => by
    rw [l_X3_pass_2]
    have t1 := inc1 (v := v2) (by omega)
    refine al_ite (fun c => al_oV' (fun g3 q3 => al_oV' (fun g4 q4 => ?_))) (fun c => ?_)
    · obtain ⟨x1, w1, x2⟩ := holdFeast_ok ha hY H (W.live _) g3 q3
      obtain ⟨x3, w2, x4⟩ := endYear_ok ha hY x1 w1 g4 q4
      have e2 : (v2 + 1).toInt.toNat = v2.toInt.toNat + 1 := by omega
      exact pass_2 ha hY W hv hm n (v2 + 1) g4 (by omega) (by omega) (by rw [e2]; exact x3) (fun g' z1 z2 => K g' z1 (z2.trans (x4.trans x2)))
    · have e : v2.toInt.toNat = m := by omega
      rw [e] at H
      exact K h H (fFr.refl _ _ _)
def frN (Y : zY) (y : Int32) (st : zT2) (m : Nat) : Int32 := frS (knS Y (liveS Y y st m).2) (yN Y)
theorem pass_ok {a : Nat} (ha : zS a) {Y : zY} (hY : Yr Y) {y : Int32} {st : zT2} (W : Wf (yN Y) st) {v1 : Int32} {m : Nat} (hv : v1.toInt = m) (hm : m < 1000) {h : dH} (H : SC a Y y st h) : Al (f_X3_pass a v1 h) (fun o => o.1 = frN Y y st m ∧ SC a Y (liveS Y y st m).1 (liveS Y y st m).2 o.2 ∧ fFr a (yN Y) o.2 h) :=
  pass_2 ha hY W hv hm _ 0 h (by decide) (by rw [ti0]; omega) H (fun g x1 x2 => al_oP (fun r hr => al_some ⟨friends_ok x1.kn x1.2.2.1 x1.2.2.2.1 r hr, x1, x2⟩))
/-! the reference lays aside, and back -/
/-- all but what it scribbles -/
def bFr (g h : dH) : Prop := ∀ a k, ¬ (a = 0 ∧ 14 ≤ k ∧ k ≤ 28) → ¬ (a = 0 ∧ k = 34) → ¬ (8 ≤ a ∧ a ≤ 10) → ¬ (a = 7 ∧ 64 ≤ k) → g a k = h a k
theorem bFr.refl (h : dH) : bFr h h := fun _ _ _ _ _ _ => rfl
theorem bFr.trans {f g h : dH} (q : bFr f g) (r : bFr g h) : bFr f h := fun a k x y z w => (q a k x y z w).trans (r a k x y z w)
theorem mFr.b {g h : dH} (q : mFr g h) : bFr g h := fun a k x _ _ _ => q a k x
theorem SM.b {Y : zY} {y : Int32} {st : zT2} {g h : dH} (q : bFr g h) (H : SM Y y st h) : SM Y y st g := by
  obtain ⟨h0, h1, h2, h3, h4, h5, h6⟩ := H
  refine ⟨by rw [q 0 7 (by omega) (by omega) (by omega) (by omega)]; exact h0, by rw [q 0 8 (by omega) (by omega) (by omega) (by omega)]; exact h1, by rw [q 0 13 (by omega) (by omega) (by omega) (by omega)]; exact h2, h3, fun i hi => ?_, fun i j hi hj => ?_, h6.same (fun k => q 1 k (by omega) (by omega) (by omega) (by omega)) (fun k => q 2 k (by omega) (by omega) (by omega) (by omega)) (q 0 4 (by omega) (by omega) (by omega) (by omega))⟩
  · rw [q 4 i (by omega) (by omega) (by omega) (by omega), q 5 i (by omega) (by omega) (by omega) (by omega), q 6 i (by omega) (by omega) (by omega) (by omega)]; exact h4 i hi
  · rw [q 7 _ (by omega) (by omega) (by omega) (by omega)]; exact h5 i j hi hj
theorem mNo.b {g h : dH} (q : bFr g h) (n : mNo h) : mNo g := by
  unfold mNo at n ⊢
  rw [q 0 29 (by omega) (by omega) (by omega) (by omega), q 0 30 (by omega) (by omega) (by omega) (by omega), q 0 31 (by omega) (by omega) (by omega) (by omega)]
  exact n
theorem laysAside_2 {h0 : dH} {k : dH → Option dH} {P : dH → Prop} : ∀ (n : Nat) (v1 : Int32) (h : dH), 0 ≤ v1.toInt → v1.toInt ≤ 64 → (∀ j, j < v1.toInt.toNat → h 9 j = h0 7 j) → (∀ a j, ¬ a = 9 → h a j = h0 a j) → (∀ g, (∀ j, j < 64 → g 9 j = h0 7 j) → (∀ a j, ¬ a = 9 → g a j = h0 a j) → Al (k g) P) → Al (l_X7_laysAside_2 k n v1 h) P
  | 0, _, _, _, _, _, _, _ => al_none
  | n + 1, v1, h, p0, p1, h1, h2, K => by
    rw [l_X7_laysAside_2]
    have t := inc1 (v := v1) (by omega)
    refine al_ite (fun c1 => al_ite (fun _ => al_ite (fun _ => al_oH' (fun g hg => ?_)) (fun _ => al_none)) (fun _ => al_none)) (fun c1 => K h (fun j hj => h1 j (by omega)) h2)
    refine laysAside_2 n (v1 + 1) g (by omega) (by omega) (fun j hj => ?_) (fun a j q => by rw [hg, dU_ne (by omega)]; exact h2 a j q) K
    by_cases e : j = v1.toInt.toNat
    · rw [e, hg, dU_eq]; exact h2 _ _ (by omega)
    · rw [hg, dU_ne (by omega)]; exact h1 j (by omega)
theorem laysAside_ok (h : dH) : Al (f_X7_laysAside h) (fun g => (∀ j, j < 64 → g 9 j = h 7 j) ∧ g 0 34 = h 0 7 ∧ ∀ a j, ¬ a = 9 → ¬ (a = 0 ∧ j = 34) → g a j = h a j) :=
  laysAside_2 (h0 := h) _ 0 h (by decide) (by decide) (fun j hj => absurd hj (by rw [ti0]; omega)) (fun _ _ _ => rfl) (fun g q1 q2 => al_oH' (fun g2 hg => al_some ⟨fun j hj => by rw [hg, dU_ne (by omega)]; exact q1 j hj, by rw [hg, dU_eq]; exact q2 _ _ (by omega), fun a j x1 x2 => by rw [hg, dU_ne x2]; exact q2 a j x1⟩))
theorem laysBack_2 {h0 : dH} {k : dH → Option dH} {P : dH → Prop} : ∀ (n : Nat) (v1 : Int32) (h : dH), 0 ≤ v1.toInt → v1.toInt ≤ 64 → (∀ j, j < v1.toInt.toNat → h 7 j = h0 9 j) → (∀ a j, ¬ a = 7 → h a j = h0 a j) → (∀ g, (∀ j, j < 64 → g 7 j = h0 9 j) → (∀ a j, ¬ a = 7 → g a j = h0 a j) → Al (k g) P) → Al (l_X7_laysBack_2 k n v1 h) P
  | 0, _, _, _, _, _, _, _ => al_none
  | n + 1, v1, h, p0, p1, h1, h2, K => by
    rw [l_X7_laysBack_2]
    have t := inc1 (v := v1) (by omega)
    refine al_ite (fun c1 => al_ite (fun _ => al_ite (fun _ => al_oH' (fun g hg => ?_)) (fun _ => al_none)) (fun _ => al_none)) (fun c1 => K h (fun j hj => h1 j (by omega)) h2)
    refine laysBack_2 n (v1 + 1) g (by omega) (by omega) (fun j hj => ?_) (fun a j q => by rw [hg, dU_ne (by omega)]; exact h2 a j q) K
    by_cases e : j = v1.toInt.toNat
    · rw [e, hg, dU_eq]; exact h2 _ _ (by omega)
    · rw [hg, dU_ne (by omega)]; exact h1 j (by omega)
theorem laysBack_ok (h : dH) : Al (f_X7_laysBack h) (fun g => (∀ j, j < 64 → g 7 j = h 9 j) ∧ g 0 7 = h 0 34 ∧ ∀ a j, ¬ a = 7 → ¬ (a = 0 ∧ j = 7) → g a j = h a j) :=
  laysBack_2 (h0 := h) _ 0 h (by decide) (by decide) (fun j hj => absurd hj (by rw [ti0]; omega)) (fun _ _ _ => rfl) (fun g q1 q2 => al_oH' (fun g2 hg => al_some ⟨fun j hj => by rw [hg, dU_ne (by omega)]; exact q1 j hj, by rw [hg, dU_eq]; exact q2 _ _ (by omega), fun a j x1 x2 => by rw [hg, dU_ne x2]; exact q2 a j x1⟩))
/-- all but names, reading, strengths, YEAR, ways -/
def wFr (g h : dH) : Prop := ∀ a k, ¬ (a = 0 ∧ 14 ≤ k ∧ k ≤ 28) → ¬ (a = 0 ∧ k = 7) → ¬ a = 7 → ¬ a = 8 → g a k = h a k
theorem gFr.w {g h : dH} (q : gFr g h) : wFr g h := fun a k x y z _ => q a k x y z
theorem wFr.trans {f g h : dH} (q : wFr f g) (r : wFr g h) : wFr f h := fun a k x y z w => (q a k x y z w).trans (r a k x y z w)
/-- laid back, all is as it was -/
theorem back_b {h g1 g2 g3 : dH} (q1 : (∀ j, j < 64 → g1 9 j = h 7 j) ∧ g1 0 34 = h 0 7 ∧ ∀ a j, ¬ a = 9 → ¬ (a = 0 ∧ j = 34) → g1 a j = h a j) (q2 : wFr g2 g1) (q3 : (∀ j, j < 64 → g3 7 j = g2 9 j) ∧ g3 0 7 = g2 0 34 ∧ ∀ a j, ¬ a = 7 → ¬ (a = 0 ∧ j = 7) → g3 a j = g2 a j) : bFr g3 h := by
  obtain ⟨a1, a2, a3⟩ := q1
  obtain ⟨b1, b2, b3⟩ := q3
  intro a k x y z w
  by_cases ha : a = 7
  · subst ha
    rw [b1 k (by omega), q2 9 k (by omega) (by omega) (by omega) (by omega), a1 k (by omega)]
  · by_cases hk : a = 0 ∧ k = 7
    · obtain ⟨rfl, rfl⟩ := hk
      rw [b2, q2 0 34 (by omega) (by omega) (by omega) (by omega), a2]
    · rw [b3 a k ha hk, q2 a k x hk ha (by omega), a3 a k (by omega) (by omega)]
theorem aside_sm {Y : zY} {y : Int32} {st : zT2} {g h : dH} (H : SM Y y st h) (q : (∀ j, j < 64 → g 9 j = h 7 j) ∧ g 0 34 = h 0 7 ∧ ∀ a j, ¬ a = 9 → ¬ (a = 0 ∧ j = 34) → g a j = h a j) : SM Y y st g := H.b (fun a k _ y z _ => q.2.2 a k (by omega) y)
theorem friendsBehind_ok {Y : zY} {y : Int32} {st : zT2} {v1 : Int32} {m : Nat} (hv : v1.toInt = m) (hm : m < 1000) {h : dH} (H : SM Y y st h) (n : mNo h) : Al (f_X7_friendsBehind v1 h) (fun o => o.1 = frN Y y st m ∧ bFr o.2 h) := by
  unfold f_X7_friendsBehind
  refine al_oV' (fun g1 h1 => al_oV' (fun g2 h2 => al_oP (fun r hr => al_oV' (fun g4 h4 => al_some ?_))))
  have q1 := laysAside_ok h g1 h1
  obtain ⟨x1, x2⟩ := lives_ok hv hm (aside_sm H q1) g2 h2
  have n2 : mNo g2 := by
    unfold mNo at n ⊢
    rw [x2 0 29 (by omega) (by omega) (by omega), x2 0 30 (by omega) (by omega) (by omega), x2 0 31 (by omega) (by omega) (by omega), q1.2.2 0 29 (by omega) (by omega), q1.2.2 0 30 (by omega) (by omega), q1.2.2 0 31 (by omega) (by omega)]
    exact n
  exact ⟨mfriends_ok (x1.kn n2) x1.2.2.1 x1.2.2.2.1 r hr, back_b q1 x2.w (laysBack_ok g2 g4 h4)⟩
end
