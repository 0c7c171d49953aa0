/-! tables that are drawn; chances -/
noncomputable section
def lcS (z : Int32) : Nat → Int32
  | 0 => z
  | m + 1 => lcS z m * 1103515245 + 12345
theorem lc0 (z : Int32) : z = lcS z (0 : Int32).toInt.toNat := by
  rw [ti0]
  show z = lcS z 0
  rw [lcS]
def tbD (z : Int32) (k : Nat) : Int32 := drem (dushr (lcS z (k + 1)) 9) 4
def drS (Y : zY) (y : Int32) (st : zT2) (z : Int32) (m : Nat) : Int32 := frN (yU Y (tbD z)) y st m
theorem drawn_16 {N : Nat} (hN8 : N ≤ 8) {z : Int32} {h0 : dH} (hN : (h0 43 2).toInt = N) {k : dH → Option (Int32 × dH)} {P : Int32 × dH → Prop} (Kk : ∀ g, (∀ b j, ¬ b = 60 → g b j = h0 b j) → (∀ j, j < N → g 60 j = tbD z j) → Al (k g) P) : ∀ (n : Nat) (v3 v4 : Int32) (h : dH), 0 ≤ v4.toInt → v4.toInt ≤ N → v3 = lcS z v4.toInt.toNat → (∀ b j, ¬ b = 60 → h b j = h0 b j) → (∀ j, j < v4.toInt.toNat → h 60 j = tbD z j) → Al (l_X6_friendsDrawn_16 k n v3 v4 h) P
  | 0, _, _, _, _, _, _, _, _ => al_none
  | n + 1, v3, v4, h, p0, p1, e, F, T => by
    rw [l_X6_friendsDrawn_16, F 43 2 (by omega), hN]
    have t := inc1 (v := v4) (by omega)
    have en : (v4 + 1).toInt.toNat = v4.toInt.toNat + 1 := by omega
    refine al_ite (fun c => al_ite (fun _ => al_oH' (fun g hg => drawn_16 hN8 hN Kk n _ (v4 + 1) g (by omega) (by omega) (by rw [en, lcS, e]) (fun b j q => by rw [hg, dU_ne (by omega)]; exact F b j q) (fun j hj => ?_))) (fun _ => al_none)) (fun c => Kk h F (fun j hj => T j (by omega)))
    by_cases ej : j = v4.toInt.toNat
    · rw [ej, hg]
      show dU h 60 _ _ 60 _ = _
      rw [dU_eq]
      unfold tbD
      rw [lcS, e]
    · rw [hg]
      show dU h 60 _ _ 60 _ = _
      rw [dU_ne (by omega)]
      exact T j (by omega)
theorem pass_u {Y : zY} (R : Yr Y) {y : Int32} {st : zT2} (W : Wf (yN Y) st) {v2 : Int32} {m : Nat} (h2 : v2.toInt = m) (hm : m < 1000) (hN8 : yN Y ≤ 8) {tt : Nat → Int32} {g : dH} (C2 : SC 57 (yU Y tt) y st g) {r : Int32} {g10 : dH} (hr : f_X3_pass 57 v2 g = some (r, g10)) : r = frN (yU Y tt) y st m ∧ cV g10 g := by
  obtain ⟨x1, x2, x3⟩ := pass_ok (Y := yU Y tt) isZ57 (R.u _) W h2 hm C2 (r, g10) hr
  exact ⟨x1, x3.v hN8⟩
theorem friendsDrawn_ok {Y : zY} (R : Yr Y) {y : Int32} {st : zT2} (W : Wf (yN Y) st) {v1 v2 : Int32} {m : Nat} (h2 : v2.toInt = m) (hm : m < 1000) {h : dH} (C : SC 43 Y y st h) : Al (f_X6_friendsDrawn v1 v2 h) (fun o => o.1 = drS Y y st v1 m ∧ cV o.2 h) := by
  have hN8 := C.2.2.2.1
  unfold f_X6_friendsDrawn
  refine al_oV' (fun g1 h1 => ?_)
  have b := become_ok isZ57 isZ43 (by decide) h g1 h1
  have C1 := b.sc isZ57 isZ43 C
  have C43 : SC 43 Y y st g1 := C.keep isZ43 (fun b' k hb => b.v b' k (by omega))
  exact drawn_16 (N := yN Y) hN8 (z := v1) (h0 := g1) C43.2.2.1 (fun g F T => al_oI (fun r g10 hr => al_some ⟨(pass_u R W h2 hm hN8 (C1.tab isZ57 (tb := tbD v1) F T) hr).1, ((pass_u R W h2 hm hN8 (C1.tab isZ57 (tb := tbD v1) F T) hr).2).trans ((show cV g g1 from fun a k x => F a k (by omega)).trans b.v)⟩)) _ v1 0 g1 (by decide) (by rw [ti0]; omega) (lc0 v1) (fun _ _ _ => rfl) (fun j hj => absurd hj (by rw [ti0]; exact Nat.not_lt_zero j))
theorem fB10 {Y : zY} {y : Int32} {st : zT2} {v1 : Int32} {m : Nat} (hv : v1.toInt = m) (hm : m < 1000) {h : dH} (H : SM Y y st h) : Al (f_X7_friendsBehind v1 h) (fun o => ∀ k, o.2 10 k = h 10 k) := by
  unfold f_X7_friendsBehind
  refine al_oV' (fun g1 h1 => al_oV' (fun g2 h2 => al_oP (fun r hr => al_oV' (fun g4 h4 => al_some (fun k => ?_)))))
  have q1 := laysAside_ok h g1 h1
  obtain ⟨x1, x2⟩ := lives_ok hv hm (aside_sm H q1) g2 h2
  show g4 10 k = h 10 k
  rw [(laysBack_ok g2 g4 h4).2.2 10 k (by omega) (by omega), x2 10 k (by omega) (by omega) (by omega), q1.2.2 10 k (by omega) (by omega)]
theorem clears_2 {N : Nat} (hN8 : N ≤ 8) {h0 : dH} (hN : (h0 0 13).toInt = N) : ∀ (n : Nat) (v1 : Int32) (h : dH), 0 ≤ v1.toInt → v1.toInt ≤ N → (∀ j, j < v1.toInt.toNat → h 10 j = h0 6 j) → (∀ a j, ¬ a = 10 → h a j = h0 a j) → Al (l_X7_clears_2 (fun g => some g) n v1 h) (fun g => (∀ j, j < N → g 10 j = h0 6 j) ∧ ∀ a j, ¬ a = 10 → g a j = h0 a j)
  | 0, _, _, _, _, _, _ => al_none
  | n + 1, v1, h, p0, p1, h1, h2 => by
    rw [l_X7_clears_2, h2 0 13 (by omega), hN]
    have t := inc1 (v := v1) (by omega)
    refine al_ite (fun c1 => al_ite (fun _ => al_ite (fun _ => al_oH' (fun g hg => ?_)) (fun _ => al_none)) (fun _ => al_none)) (fun c1 => al_some ⟨fun j hj => h1 j (by omega), h2⟩)
    refine clears_2 hN8 hN n (v1 + 1) g (by omega) (by omega) (fun j hj => ?_) (fun a j q => by rw [hg, dU_ne (by omega)]; exact h2 a j q)
    by_cases e : j = v1.toInt.toNat
    · rw [e, hg, dU_eq]; exact h2 _ _ (by omega)
    · rw [hg, dU_ne (by omega)]; exact h1 j (by omega)
theorem clears_ok {N : Nat} (hN8 : N ≤ 8) {h : dH} (hN : (h 0 13).toInt = N) : Al (f_X7_clears h) (fun g => (∀ j, j < N → g 10 j = h 6 j) ∧ ∀ a j, ¬ a = 10 → g a j = h a j) :=
  clears_2 hN8 hN _ 0 h (by decide) (by rw [ti0]; omega) (fun j hj => absurd hj (by rw [ti0]; exact Nat.not_lt_zero j)) (fun _ _ _ => rfl)
theorem sits_2 {N : Nat} (hN8 : N ≤ 8) {h0 : dH} (hN : (h0 0 13).toInt = N) : ∀ (n : Nat) (v1 : Int32) (h : dH), 0 ≤ v1.toInt → v1.toInt ≤ N → (∀ j, j < v1.toInt.toNat → h 6 j = h0 10 j) → (∀ a j, ¬ (a = 6 ∧ j < N) → h a j = h0 a j) → Al (l_X7_sitsAgain_2 (fun g => some g) n v1 h) (fun g => (∀ j, j < N → g 6 j = h0 10 j) ∧ ∀ a j, ¬ (a = 6 ∧ j < N) → g a j = h0 a j)
  | 0, _, _, _, _, _, _ => al_none
  | n + 1, v1, h, p0, p1, h1, h2 => by
    rw [l_X7_sitsAgain_2, h2 0 13 (by omega), hN]
    have t := inc1 (v := v1) (by omega)
    refine al_ite (fun c1 => al_ite (fun _ => al_ite (fun _ => al_oH' (fun g hg => ?_)) (fun _ => al_none)) (fun _ => al_none)) (fun c1 => al_some ⟨fun j hj => h1 j (by omega), h2⟩)
    refine sits_2 hN8 hN n (v1 + 1) g (by omega) (by omega) (fun j hj => ?_) (fun a j q => by rw [hg, dU_ne (by omega)]; exact h2 a j q)
    by_cases e : j = v1.toInt.toNat
    · rw [e, hg, dU_eq]; exact h2 _ _ (by omega)
    · rw [hg, dU_ne (by omega)]; exact h1 j (by omega)
theorem sits_ok {N : Nat} (hN8 : N ≤ 8) {h : dH} (hN : (h 0 13).toInt = N) : Al (f_X7_sitsAgain h) (fun g => (∀ j, j < N → g 6 j = h 10 j) ∧ ∀ a j, ¬ (a = 6 ∧ j < N) → g a j = h a j) :=
  sits_2 hN8 hN _ 0 h (by decide) (by rw [ti0]; omega) (fun j hj => absurd hj (by rw [ti0]; exact Nat.not_lt_zero j)) (fun _ _ _ => rfl)
/-- tables put aside, changed, put back -/
theorem sits_b {N : Nat} {h g1 g2 g3 g4 : dH} (q1 : (∀ j, j < N → g1 10 j = h 6 j) ∧ ∀ a j, ¬ a = 10 → g1 a j = h a j) (q2 : ∀ a j, ¬ (a = 6 ∧ j < N) → g2 a j = g1 a j) (q3 : bFr g3 g2) (q3' : ∀ k, g3 10 k = g2 10 k) (q4 : (∀ j, j < N → g4 6 j = g3 10 j) ∧ ∀ a j, ¬ (a = 6 ∧ j < N) → g4 a j = g3 a j) : bFr g4 h := by
  intro a k x y z w
  by_cases c : a = 6 ∧ k < N
  · obtain ⟨rfl, hk⟩ := c
    rw [q4.1 k hk, q3', q2 10 k (by omega), q1.1 k hk]
  · rw [q4.2 a k c, q3 a k x y z w, q2 a k c, q1.2 a k (by omega)]
theorem by_9 {N : Nat} (hN8 : N ≤ 8) {z : Int32} {h0 : dH} (hN : (h0 0 13).toInt = N) {k : dH → Option (Int32 × dH)} {P : Int32 × dH → Prop} (Kk : ∀ g, (∀ b j, ¬ (b = 6 ∧ j < N) → g b j = h0 b j) → (∀ j, j < N → g 6 j = tbD z j) → Al (k g) P) : ∀ (n : Nat) (v3 v4 : Int32) (h : dH), 0 ≤ v4.toInt → v4.toInt ≤ N → v3 = lcS z v4.toInt.toNat → (∀ b j, ¬ (b = 6 ∧ j < N) → h b j = h0 b j) → (∀ j, j < v4.toInt.toNat → h 6 j = tbD z j) → Al (l_X7_friendsBy_9 k n v3 v4 h) P
  | 0, _, _, _, _, _, _, _, _ => al_none
  | n + 1, v3, v4, h, p0, p1, e, F, T => by
    rw [l_X7_friendsBy_9, F 0 13 (by omega), hN]
    have t := inc1 (v := v4) (by omega)
    have en : (v4 + 1).toInt.toNat = v4.toInt.toNat + 1 := by omega
    refine al_ite (fun c => al_ite (fun _ => al_oH' (fun g hg => by_9 hN8 hN Kk n _ (v4 + 1) g (by omega) (by omega) (by rw [en, lcS, e]) (fun b j q => by rw [hg, dU_ne (by omega)]; exact F b j q) (fun j hj => ?_))) (fun _ => al_none)) (fun c => Kk h F (fun j hj => T j (by omega)))
    by_cases ej : j = v4.toInt.toNat
    · rw [ej, hg, dU_eq]
      unfold tbD
      rw [lcS, e]
    · rw [hg, dU_ne (by omega)]
      exact T j (by omega)
theorem behind_u {Y : zY} {y : Int32} {st : zT2} {v2 : Int32} {m : Nat} (h2 : v2.toInt = m) (hm : m < 1000) {tt : Nat → Int32} {g h : dH} (M : SM Y y st h) (F : tFr g h) (T : ∀ j, j < yN Y → g 6 j = tt j) (n : mNo h) {r : Int32} {g10 : dH} (hr : f_X7_friendsBehind v2 g = some (r, g10)) : r = frN (yU Y tt) y st m ∧ bFr g10 g ∧ (∀ k, g10 10 k = g 10 k) ∧ (g10 0 13).toInt = yN Y := by
  have M2 : SM (yU Y tt) y st g := M.tab F T
  obtain ⟨x1, x2⟩ := friendsBehind_ok h2 hm M2 (mNo.t F n) (r, g10) hr
  have x3 := fB10 h2 hm M2 (r, g10) hr
  refine ⟨x1, x2, x3, ?_⟩
  have e := x2 0 13 (by omega) (by omega) (by omega) (by omega)
  simp only at e
  rw [e]
  exact M2.2.2.1
theorem friendsBy_ok {Y : zY} {y : Int32} {st : zT2} {v1 v2 : Int32} {m : Nat} (h2 : v2.toInt = m) (hm : m < 1000) {h : dH} (M : SM Y y st h) (n : mNo h) : Al (f_X7_friendsBy v1 v2 h) (fun o => o.1 = drS Y y st v1 m ∧ bFr o.2 h) := by
  have hN8 := M.2.2.2.1
  unfold f_X7_friendsBy
  refine al_oV' (fun g1 h1 => ?_)
  have q1 := clears_ok hN8 M.2.2.1 g1 h1
  have key : ∀ (tt : Nat → Int32) (g : dH), (∀ b j, ¬ (b = 6 ∧ j < yN Y) → g b j = g1 b j) → (∀ j, j < yN Y → g 6 j = tt j) → Al (oI (f_X7_friendsBehind v2 g) (fun r9 g10 => oV (f_X7_sitsAgain g10) (fun g11 => some (r9, g11)))) (fun o => o.1 = frN (yU Y tt) y st m ∧ bFr o.2 h) := by
    intro tt g F T
    refine al_oI (fun r g10 hr => al_oV' (fun g11 h11 => al_some ?_))
    have Ft : tFr g h := fun a k x1 x2 x3 x4 x5 => by rw [F a k (by omega), q1.2 a k (by omega)]
    obtain ⟨x1, x2, x3, x4⟩ := behind_u h2 hm M Ft T n hr
    exact ⟨x1, sits_b q1 F x2 x3 (sits_ok hN8 x4 g11 h11)⟩
  exact by_9 (N := yN Y) hN8 (z := v1) (h0 := g1) (by rw [q1.2 0 13 (by omega)]; exact M.2.2.1) (fun g F T => key (tbD v1) g F T) _ v1 0 g1 (by decide) (by rw [ti0]; omega) (lc0 v1) (fun _ _ _ => rfl) (fun j hj => absurd hj (by rw [ti0]; exact Nat.not_lt_zero j))
theorem op_drawn {hC hM : dH} (q : RR hC hM) (v1 v2 : Int32) : Op2 (f_X6_drawn v1 v2 hC) (f_X7_drawn v1 v2 hM) := by
  obtain ⟨C, M, W, R, T⟩ := q.st
  have l0 := L0
  have l20 := L20
  unfold Op2 f_X6_drawn
  refine al_oP (fun r2 h2 => ?_)
  have q2 := years6 r2 h2
  have hv : ¬ r2.toInt = 0 → v2.toInt = (v2.toInt.toNat : Int) := fun _ => by omega
  refine al_ite (fun d => al_some (al_in (fun r qr => al_ite (fun _ => al_some ⟨rfl, q⟩) (fun z => by omega)))) (fun d => al_oI (fun r g hr => al_some (al_in (fun r5 qr => al_ite (fun z => by omega) (fun z => al_oI (fun rm gm hm => al_some ?_))))))
  obtain ⟨x1, x2⟩ := friendsDrawn_ok R W (hv d) (by omega) C (r, g) hr
  obtain ⟨y1, y2⟩ := friendsBy_ok (hv d) (by omega) M q.2.2.2.2.2 (rm, gm) hm
  exact ⟨x1.trans y1.symm, q.keep x2 y2⟩
/-! chances -/
def abS (Y : zY) (y : Int32) (st : zT2) (z : Int32) (k : Int) (t : Nat) : Bool := decide (¬ (drS Y y st (z + Int32.ofNat t) 3).toInt < k)
theorem chance_36 {Y : zY} (R : Yr Y) {y : Int32} {st : zT2} (W : Wf (yN Y) st) {v1 v2 v3 : Int32} {m : Nat} (h2 : v2.toInt = m) (hm : m < 1000) {h0 : dH} (C0 : SC 43 Y y st h0) {k : Int32 → dH → Option (Int64 × dH)} {P : Int64 × dH → Prop} (Kk : ∀ v g, v.toInt = (cntB (abS Y y st v1 v3.toInt) m : Int) → cV g h0 → Al (k v g) P) : ∀ (n : Nat) (v5 v6 : Int32) (h : dH), 0 ≤ v6.toInt → v6.toInt ≤ m → v5.toInt = (cntB (abS Y y st v1 v3.toInt) v6.toInt.toNat : Int) → cV h h0 → Al (l_X6_chance_36 v1 v2 v3 k n v5 v6 h) P
  | 0, _, _, _, _, _, _, _ => al_none
  | n + 1, v5, v6, h, p0, p1, e, V => by
    rw [l_X6_chance_36, h2]
    have C : SC 43 Y y st h := C0.keep isZ43 (fun b k hb => V b k (by omega))
    have t := inc1 (v := v6) (by omega)
    have en : (v6 + 1).toInt.toNat = v6.toInt.toNat + 1 := by omega
    have ev : v6 = Int32.ofNat v6.toInt.toNat := i32_of (by omega)
    have cl := cntB_le (f := abS Y y st v1 v3.toInt) v6.toInt.toNat
    refine al_ite (fun c => al_oI (fun r g hr => ?_)) (fun c => Kk v5 h (by rw [e, show v6.toInt.toNat = m by omega]) V)
    obtain ⟨x1, x2⟩ := friendsDrawn_ok R W (v2 := 3) (m := 3) (by decide) (by omega) C (r, g) hr
    simp only at x1 x2
    rw [ev] at x1
    refine al_ite (fun z => chance_36 R W h2 hm C0 Kk n _ (v6 + 1) g (by omega) (by omega) ?_ (x2.trans V)) (fun z => chance_36 R W h2 hm C0 Kk n _ (v6 + 1) g (by omega) (by omega) ?_ (x2.trans V))
    · rw [en, cntB, if_neg (by unfold abS; rw [decide_eq_true_eq, ← x1]; exact fun w => w z)]; exact e
    · rw [en, cntB, if_pos (by unfold abS; rw [decide_eq_true_eq, ← x1]; exact z), inc1 (by omega), e]; rfl
theorem mchance_45 {Y : zY} {y : Int32} {st : zT2} {v1 v2 v3 : Int32} {m : Nat} (h2 : v2.toInt = m) (hm : m < 1000) {h0 : dH} (M0 : SM Y y st h0) (n0 : mNo h0) {k : Int64 → dH → Option (Int64 × dH)} {P : Int64 × dH → Prop} (Kk : ∀ v g, v.toInt = (cntB (abS Y y st v1 v3.toInt) m : Int) → bFr g h0 → Al (k v g) P) : ∀ (n : Nat) (v5 : Int64) (v6 : Int32) (h : dH), 0 ≤ v6.toInt → v6.toInt ≤ m → v5.toInt = (cntB (abS Y y st v1 v3.toInt) v6.toInt.toNat : Int) → bFr h h0 → Al (l_X7_chance_45 v1 v2 v3 k n v5 v6 h) P
  | 0, _, _, _, _, _, _, _ => al_none
  | n + 1, v5, v6, h, p0, p1, e, V => by
    rw [l_X7_chance_45, h2]
    have t := inc1 (v := v6) (by omega)
    have en : (v6 + 1).toInt.toNat = v6.toInt.toNat + 1 := by omega
    have ev : v6 = Int32.ofNat v6.toInt.toNat := i32_of (by omega)
    have cl := cntB_le (f := abS Y y st v1 v3.toInt) v6.toInt.toNat
    refine al_ite (fun c => al_oI (fun r g hr => ?_)) (fun c => Kk v5 h (by rw [e, show v6.toInt.toNat = m by omega]) V)
    obtain ⟨x1, x2⟩ := friendsBy_ok (v2 := 3) (m := 3) (by decide) (by omega) (M0.b V) (mNo.b V n0) (r, g) hr
    simp only at x1 x2
    rw [ev] at x1
    refine al_ite (fun z => mchance_45 h2 hm M0 n0 Kk n _ (v6 + 1) g (by omega) (by omega) ?_ (x2.trans V)) (fun z => mchance_45 h2 hm M0 n0 Kk n _ (v6 + 1) g (by omega) (by omega) ?_ (x2.trans V))
    · have a0 : (v5 + 0).toInt = v5.toInt + 0 := l_add rfl L0 (by omega) (by omega)
      rw [a0, en, cntB, if_neg (by unfold abS; rw [decide_eq_true_eq, ← x1]; exact fun w => w z), e]; omega
    · have a1 : (v5 + 1).toInt = v5.toInt + 1 := l_add rfl L1 (by omega) (by omega)
      rw [a1, en, cntB, if_pos (by unfold abS; rw [decide_eq_true_eq, ← x1]; exact z), e]; rfl
def lG : Nat → Int64 → Int64 → Option Int64
  | 0, _, _ => none
  | n + 1, v7, v9 => if (dlcmp v9 0).toInt = 0 then some v7 else (if ¬ v9 = 0 then lG n v9 (v7 - v7 / v9 * v9) else none)
theorem lG_ok (K : Int64 → Option (Int64 × dH)) : ∀ n v7 v9, l_X7_chance_88 K n v7 v9 = (match lG n v7 v9 with
  | none => none
  | some v => K v)
  | 0, _, _ => rfl
  | n + 1, v7, v9 => by
    rw [l_X7_chance_88, lG]
    by_cases c : (dlcmp v9 0).toInt = 0
    · rw [if_pos c, if_pos c]
    · rw [if_neg c, if_neg c]
      by_cases d : ¬ v9 = 0
      · rw [if_pos d, if_pos d]; exact lG_ok K n _ _
      · rw [if_neg d, if_neg d]
theorem gcd6 : ∀ a b : Fin 21, ¬ b.val = 0 → f_X6_commonDivisor (Int32.ofNat a.val) (Int32.ofNat b.val) = some (Int32.ofNat (Nat.gcd a.val b.val)) := by decide +kernel
theorem gcd7 : ∀ a b : Fin 21, ¬ b.val = 0 → lG fuel0 (Int64.ofNat a.val) (Int64.ofNat b.val) = some (Int64.ofNat (Nat.gcd a.val b.val)) := by decide +kernel
theorem gcdQ : ∀ a b : Fin 21, ¬ b.val = 0 → (Int32.ofNat a.val / Int32.ofNat (Nat.gcd a.val b.val)).toInt64 = Int64.ofNat a.val / Int64.ofNat (Nat.gcd a.val b.val) ∧ (Int32.ofNat b.val / Int32.ofNat (Nat.gcd a.val b.val)).toInt64 = Int64.ofNat b.val / Int64.ofNat (Nat.gcd a.val b.val) ∧ (Int32.ofNat b.val).toInt64 = Int64.ofNat b.val := by decide +kernel
theorem i64_of {v : Int64} {p : Nat} (h : v.toInt = p) (hp : p < 1000) : v = Int64.ofNat p := by
  apply Int64.toInt_inj.mp
  rw [h, Int64.toInt_ofNat_of_lt (by omega)]
def Op2L (t u : Option (Int64 × dH)) : Prop := Al t (fun o => Al u (fun o2 => o.1 = o2.1 ∧ RR o.2 o2.2))
theorem op_chance {hC hM : dH} (q : RR hC hM) (v1 v2 v3 v4 : Int32) : Op2L (f_X6_chance v1 v2 v3 v4 hC) (f_X7_chance v1 v2 v3 v4 hM) := by
  obtain ⟨C, M, W, R, T⟩ := q.st
  have l0 := L0
  have l1 := L1
  have l20 := L20
  have l28 := L28
  unfold Op2L f_X6_chance
  have ref : (¬ (1 ≤ v2.toInt ∧ v2.toInt ≤ 20) ∨ ¬ (0 ≤ v3.toInt ∧ v3.toInt ≤ 28) ∨ ¬ (v4.toInt = 0 ∨ v4.toInt = 1)) → Al (some ((-4611686018427387904 : Int64), hC)) (fun o => Al (f_X7_chance v1 v2 v3 v4 hM) (fun o2 => o.1 = o2.1 ∧ RR o.2 o2.2)) := by
    intro w
    refine al_some (al_in (fun r qr => al_ite (fun _ => al_some ⟨rfl, q⟩) (fun z => al_in (fun r2 q2 => al_ite (fun _ => al_some ⟨rfl, q⟩) (fun z => al_in (fun r3 q3 => al_ite (fun _ => al_some ⟨rfl, q⟩) (fun z => by omega)))))))
  refine al_ite (fun c => ref (by omega)) (fun c => al_ite (fun d => ref (by omega)) (fun d => al_oP (fun r5 h5 => ?_)))
  have q5 := friends6 r5 h5
  refine al_ite (fun e => ref (by omega)) (fun e => al_oP (fun r8 h8 => ?_))
  have q8 := either6 r8 h8
  refine al_ite (fun e => ref (by omega)) (fun e2 => ?_)
  have hm : v2.toInt = (v2.toInt.toNat : Int) := by omega
  obtain ⟨A, hA⟩ : ∃ A, cntB (abS (yOf 43 hC) (hC 43 0) (stOf 43 hC) v1 v3.toInt) v2.toInt.toNat = A := ⟨_, rfl⟩
  have cl := cntB_le (f := abS (yOf 43 hC) (hC 43 0) (stOf 43 hC) v1 v3.toInt) v2.toInt.toNat
  refine chance_36 R W hm (by omega) C (fun v g hv V => ?_) fuel0 0 0 hC (by decide) (by rw [ti0]; omega) (by rw [ti0]; rfl) (cV.refl _)
  rw [hA] at hv
  have ev := i32_of hv
  have eb := i32_of hm
  have g6 := gcd6 ⟨A, by omega⟩ ⟨v2.toInt.toNat, by omega⟩ (by simp only; omega)
  have g7 := gcd7 ⟨A, by omega⟩ ⟨v2.toInt.toNat, by omega⟩ (by simp only; omega)
  obtain ⟨gq1, gq2, gq3⟩ := gcdQ ⟨A, by omega⟩ ⟨v2.toInt.toNat, by omega⟩ (by simp only; omega)
  simp only at g6 g7 gq1 gq2 gq3
  rw [← ev, ← eb] at g6
  rw [g6, oP_some]
  have mm : ∀ (x : Int64), x = (if v4.toInt = 0 then Int64.ofNat A / Int64.ofNat (Nat.gcd A v2.toInt.toNat) else Int64.ofNat v2.toInt.toNat / Int64.ofNat (Nat.gcd A v2.toInt.toNat)) → Al (f_X7_chance v1 v2 v3 v4 hM) (fun o2 => x = o2.1 ∧ RR g o2.2) := by
    intro x hx
    refine al_in (fun r qr => al_ite (fun z => by omega) (fun z => al_in (fun r2 q2 => al_ite (fun z => by omega) (fun z => al_in (fun r3 q3 => al_ite (fun z => by omega) (fun z => ?_))))))
    refine mchance_45 hm (by omega) M q.2.2.2.2.2 (fun w gm hw F => ?_) fuel0 0 0 hM (by decide) (by rw [ti0]; omega) (by rw [ti0, L0]; rfl) (bFr.refl _)
    rw [hA] at hw
    have ew := i64_of hw (by omega)
    rw [lG_ok, ew, show v2.toInt64 = Int64.ofNat v2.toInt.toNat by rw [← gq3, ← eb], g7]
    simp only
    have kk := q.keep V F
    refine al_ite (fun z => al_ite (fun _ => al_some ⟨?_, kk⟩) (fun _ => al_none)) (fun z => al_ite (fun _ => al_some ⟨?_, kk⟩) (fun _ => al_none))
    · rw [hx, if_pos z]
    · rw [hx, if_neg z]
  refine al_ite (fun z => al_ite (fun _ => al_some (mm _ ?_)) (fun _ => al_none)) (fun z => al_ite (fun _ => al_some (mm _ ?_)) (fun _ => al_none))
  · rw [if_pos z, ← gq1, ← ev]
  · rw [if_neg z, ← gq2, ← eb]
end
