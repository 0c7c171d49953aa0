/-! all parted in two -/
noncomputable section
/-- tables told apart alike -/
def simT (N : Nat) (t u : Nat → Int32) : Prop := ∀ i j, i < N → j < N → ((t i).toInt = -1 ↔ (u i).toInt = -1) ∧ ((t i).toInt = (t j).toInt ↔ (u i).toInt = (u j).toInt)
theorem fIn_congr {σ : Type} {F G : Nat → Nat → σ → σ} {i N : Nat} (h : ∀ j s, i < j → j < N → F i j s = G i j s) : ∀ j s, j ≤ N → fIn F i j s = fIn G i j s
  | 0, _, _ => rfl
  | j + 1, s, hj => by
    rw [fIn, fIn, fIn_congr h j s (by omega)]
    by_cases c : i < j
    · rw [if_pos c, if_pos c, h j _ c (by omega)]
    · rw [if_neg c, if_neg c]
theorem fOut_congr {σ : Type} {F G : Nat → Nat → σ → σ} {N : Nat} (h : ∀ i j s, i < j → j < N → F i j s = G i j s) : ∀ i s, i ≤ N → fOut F N i s = fOut G N i s
  | 0, _, _ => rfl
  | i + 1, s, hi => by
    rw [fOut, fOut, fOut_congr h i s (by omega), fIn_congr (fun j s h1 h2 => h i j s h1 h2) N _ (Nat.le_refl _)]
section SI
variable {Y : zY} {t u : Nat → Int32}
theorem seats_sim (h : simT (yN Y) t u) {i : Nat} (hi : i < yN Y) : seatsS (yU Y t) i = seatsS (yU Y u) i := by
  unfold seatsS
  show (if (t i).toInt = -1 then 0 else cnt32 (fun k => decide ((t k).toInt = (t i).toInt)) (yN Y)) = (if (u i).toInt = -1 then 0 else cnt32 (fun k => decide ((u k).toInt = (u i).toInt)) (yN Y))
  have h1 := (h i i hi hi).1
  by_cases c : (t i).toInt = -1
  · rw [if_pos c, if_pos (h1.mp c)]
  · rw [if_neg c, if_neg (fun z => c (h1.mpr z))]
    exact cnt32_congr _ (fun k hk => by rw [decide_eq_decide]; exact (h k i hk hi).2)
theorem nm_k {y : Int32} {st : zT2} {i j k : Nat} (hk : ¬ k = 3) : nmS (yU Y t) y st i j k = nmS Y y st i j k := by
  unfold nmS
  split <;> first | rfl | omega
theorem nm_sim (h : simT (yN Y) t u) {y : Int32} {st : zT2} {i j : Nat} (hi : i < yN Y) : nmS (yU Y t) y st i j = nmS (yU Y u) y st i j := by
  funext k
  by_cases e : k = 3
  · rw [e]; exact seats_sim h hi
  · rw [nm_k e, nm_k e]
theorem mt_sim (h : simT (yN Y) t u) {y : Int32} {st : zT2} {i j : Nat} (hi : i < yN Y) : mtS (yU Y t) y st i j = mtS (yU Y u) y st i j := by
  unfold mtS
  rw [nm_sim h hi]
  rfl
theorem fd_sim (h : simT (yN Y) t u) {y : Int32} {st : zT2} {i j : Nat} (hi : i < yN Y) : fdS (yU Y t) y st i j = fdS (yU Y u) y st i j := by
  unfold fdS
  rw [nm_sim h hi]
  rfl
theorem fs_sim (h : simT (yN Y) t u) {y : Int32} {st : zT2} {i j : Nat} (hi : i < yN Y) (hj : j < yN Y) : fsStep (yU Y t) y i j st = fsStep (yU Y u) y i j st := by
  unfold fsStep
  rw [mt_sim h hi, mt_sim h hj]
  show (if (t i).toInt = -1 then st else if (t i).toInt = (t j).toInt then _ else st) = (if (u i).toInt = -1 then st else if (u i).toInt = (u j).toInt then _ else st)
  obtain ⟨h1, h2⟩ := h i j hi hj
  by_cases c : (t i).toInt = -1
  · rw [if_pos c, if_pos (h1.mp c)]
  · rw [if_neg c, if_neg (fun z => c (h1.mpr z))]
    by_cases d : (t i).toInt = (t j).toInt
    · rw [if_pos d, if_pos (h2.mp d)]
    · rw [if_neg d, if_neg (fun z => d (h2.mpr z))]
theorem yr_sim (h : simT (yN Y) t u) {y : Int32} {st : zT2} {i j : Nat} (hi : i < yN Y) (hj : j < yN Y) : yrStep (yU Y t) y i j st = yrStep (yU Y u) y i j st := by
  unfold yrStep
  rw [fd_sim h hi, fd_sim h hj]
theorem live_sim (h : simT (yN Y) t u) {y : Int32} {st : zT2} : ∀ n, liveS (yU Y t) y st n = liveS (yU Y u) y st n
  | 0 => rfl
  | n + 1 => by
    have ih := live_sim h (y := y) (st := st) n
    have f1 : ∀ y st, feastS (yU Y t) y st = feastS (yU Y u) y st := fun y st => fOut_congr (N := yN Y) (fun i j s h1 h2 => fs_sim h (by omega) h2) _ _ (Nat.le_refl _)
    have f2 : ∀ y st, fadeS (yU Y t) y st = fadeS (yU Y u) y st := fun y st => fOut_congr (N := yN Y) (fun i j s h1 h2 => yr_sim h (by omega) h2) _ _ (Nat.le_refl _)
    rw [liveS, liveS, ih, f1, f2]
theorem fr_sim (h : simT (yN Y) t u) {y : Int32} {st : zT2} {n : Nat} : frN (yU Y t) y st n = frN (yU Y u) y st n := by
  unfold frN
  rw [live_sim h]
  rfl
end SI
/-- tables by bits -/
def tbB (x : Int32) (k : Nat) : Int32 := (dshr x (Int32.ofNat k)) &&& 1
theorem tbB_v {x : Int32} {k : Nat} (hk : k < 8) : (tbB x k).toInt = if bt x k = true then 1 else 0 := by
  have hv : (Int32.ofNat k).toInt = k := Int32.toInt_ofNat_of_lt (by omega)
  unfold tbB
  have e := bt_test (x := x) hv hk
  by_cases c : bt x k = true
  · rw [if_pos c]; exact e.mpr c
  · rw [if_neg c]
    have o : ∀ y : Int32, (y &&& 1).toInt = 1 ∨ (y &&& 1).toInt = 0 := by
      intro y
      have e2 : (y &&& 1).toBitVec = BitVec.setWidth 32 (BitVec.ofBool (y.toBitVec.getLsbD 0)) := by
        show y.toBitVec &&& 1#32 = _
        exact BitVec.and_one_eq_setWidth_ofBool_getLsbD
      have t : (y &&& 1).toInt = (y &&& 1).toBitVec.toInt := rfl
      rw [t, e2]
      cases y.toBitVec.getLsbD 0
      · right; decide
      · left; decide
    rcases o (dshr x (Int32.ofNat k)) with q | q
    · exact absurd (e.mp q) c
    · exact q
theorem bt_nat {b k : Nat} (hk : k < 32) : bt (Int32.ofNat b) k = b.testBit k := by
  show (BitVec.ofNat 32 b).getLsbD k = _
  rw [BitVec.getLsbD_ofNat, decide_eq_true hk, Bool.true_and]
/-- mirrored bits: the same parting -/
theorem tb_mirror {N b : Nat} (hN : N ≤ 8) (hb : b < 2 ^ N) : simT N (tbB (Int32.ofNat b)) (tbB (Int32.ofNat (2 ^ N - (b + 1)))) := by
  intro i j hi hj
  have v : ∀ k, k < N → (tbB (Int32.ofNat b) k).toInt = (if b.testBit k = true then 1 else 0) ∧ (tbB (Int32.ofNat (2 ^ N - (b + 1))) k).toInt = (if b.testBit k = true then 0 else 1) := by
    intro k hk
    rw [tbB_v (by omega), tbB_v (by omega), bt_nat (by omega), bt_nat (by omega), Nat.testBit_two_pow_sub_succ hb, decide_eq_true hk, Bool.true_and]
    refine ⟨rfl, ?_⟩
    cases b.testBit k <;> rfl
  obtain ⟨a1, a2⟩ := v i hi
  obtain ⟨b1, b2⟩ := v j hj
  rw [a1, a2, b1, b2]
  cases b.testBit i <;> cases b.testBit j <;> decide
/-! the first of the best, of more -/
theorem fb_bound {f : Nat → Int32} {b : Int32 × Int32} : ∀ M t, t < M → (f t).toInt ≤ (fbS f b M).2.toInt
  | 0, t, h => absurd h (by omega)
  | M + 1, t, h => by
    rw [fbS]
    by_cases c : (fbS f b M).2.toInt < (f M).toInt
    · rw [if_pos c]
      by_cases e : t = M
      · rw [e]; exact Int.le_refl _
      · have := fb_bound (f := f) (b := b) M t (by omega)
        show (f t).toInt ≤ (f M).toInt
        omega
    · rw [if_neg c]
      by_cases e : t = M
      · rw [e]; omega
      · exact fb_bound M t (by omega)
theorem fb_more {f : Nat → Int32} {b : Int32 × Int32} {M : Nat} : ∀ d, (∀ t, M ≤ t → t < M + d → ∃ s, s < M ∧ f t = f s) → fbS f b (M + d) = fbS f b M
  | 0, _ => rfl
  | d + 1, h => by
    have ih := fb_more (f := f) (b := b) (M := M) d (fun t h1 h2 => h t h1 (by omega))
    obtain ⟨s, hs, e⟩ := h (M + d) (by omega) (by omega)
    have := fb_bound (f := f) (b := b) M s hs
    show fbS f b ((M + d) + 1) = _
    rw [fbS, ih, if_neg (by rw [e]; omega)]
def spS (Y : zY) (y : Int32) (st : zT2) (m t : Nat) : Int32 := frN (yU Y (tbB (Int32.ofNat t))) y st m
theorem sp_half {Y : zY} {y : Int32} {st : zT2} {m : Nat} (hN : yN Y ≤ 8) (h0 : 0 < yN Y) {b : Int32 × Int32} : fbS (spS Y y st m) b (2 ^ yN Y) = fbS (spS Y y st m) b (2 ^ (yN Y - 1)) := by
  have e : 2 ^ yN Y = 2 ^ (yN Y - 1) + 2 ^ (yN Y - 1) := by
    obtain ⟨n, hn⟩ : ∃ n, yN Y = n + 1 := ⟨yN Y - 1, by omega⟩
    rw [hn, Nat.pow_succ, Nat.add_sub_cancel]; omega
  rw [e]
  refine fb_more _ (fun t h1 h2 => ⟨2 ^ yN Y - (t + 1), by rw [e]; omega, ?_⟩)
  unfold spS
  exact fr_sim (tb_mirror hN (by rw [e]; omega))
theorem shl_pow {v : Int32} {n : Nat} (hv : v.toInt = n) (hn : n ≤ 8) : (dshl 1 v).toInt = (2 ^ n : Nat) := by
  rw [i32_of hv]
  have h : ∀ j : Fin 9, (dshl 1 (Int32.ofNat j.val)).toInt = (2 ^ j.val : Nat) := by decide +kernel
  exact h ⟨n, by omega⟩
/-! the class -/
theorem split_75 {N : Nat} (hN8 : N ≤ 8) {x : Int32} {h0 : dH} (hN : (h0 43 2).toInt = N) {k : dH → Option (Int32 × dH)} {P : Int32 × dH → Prop} (Kk : ∀ g, (∀ b j, ¬ b = 60 → g b j = h0 b j) → (∀ j, j < N → g 60 j = tbB x j) → Al (k g) P) : ∀ (n : Nat) (v7 : Int32) (h : dH), 0 ≤ v7.toInt → v7.toInt ≤ N → (∀ b j, ¬ b = 60 → h b j = h0 b j) → (∀ j, j < v7.toInt.toNat → h 60 j = tbB x j) → Al (l_X6_split_75 x k n v7 h) P
  | 0, _, _, _, _, _, _ => al_none
  | n + 1, v7, h, p0, p1, F, T => by
    rw [l_X6_split_75, F 43 2 (by omega), hN]
    have t := inc1 (v := v7) (by omega)
    have en : (v7 + 1).toInt.toNat = v7.toInt.toNat + 1 := by omega
    refine al_ite (fun c => al_ite (fun _ => al_oH' (fun g hg => split_75 hN8 hN Kk n (v7 + 1) g (by omega) (by omega) (fun b j q => by rw [hg, dU_ne (by omega)]; exact F b j q) (fun j hj => ?_))) (fun _ => al_none)) (fun c => Kk h F (fun j hj => T j (by omega)))
    by_cases ej : j = v7.toInt.toNat
    · rw [ej, hg]
      show dU h 60 _ _ 60 _ = _
      rw [dU_eq]
      unfold tbB
      rw [← i32_of (v := v7) (by omega)]
    · rw [hg]
      show dU h 60 _ _ 60 _ = _
      rw [dU_ne (by omega)]
      exact T j (by omega)
theorem split_54 {Y : zY} (R : Yr Y) {y : Int32} {st : zT2} (W : Wf (yN Y) st) {v1 v5 : Int32} {m M : Nat} (h1 : v1.toInt = m) (hm : m < 1000) (h5 : v5.toInt = M) (hM : M ≤ 256) {h0 : dH} (C0 : SC 43 Y y st h0) {k : Int32 → Int32 → dH → Option (Int32 × dH)} {P : Int32 × dH → Prop} (Kk : ∀ g, cV g h0 → Al (k (fbS (spS Y y st m) (0, -1) M).1 (fbS (spS Y y st m) (0, -1) M).2 g) P) : ∀ (n : Nat) (v3 v4 v6 : Int32) (h : dH), 0 ≤ v6.toInt → v6.toInt ≤ M → v3 = (fbS (spS Y y st m) (0, -1) v6.toInt.toNat).1 → v4 = (fbS (spS Y y st m) (0, -1) v6.toInt.toNat).2 → cV h h0 → Al (l_X6_split_54 v1 v5 k n v3 v4 v6 h) P
  | 0, _, _, _, _, _, _, _, _, _ => al_none
  | n + 1, v3, v4, v6, h, p0, p1, e3, e4, V => by
    have hN8 := C0.2.2.2.1
    have C : SC 43 Y y st h := C0.keep isZ43 (fun b k hb => V b k (by omega))
    rw [l_X6_split_54, h5]
    have t := inc1 (v := v6) (by omega)
    have en : (v6 + 1).toInt.toNat = v6.toInt.toNat + 1 := by omega
    have e6 : v6 = Int32.ofNat v6.toInt.toNat := i32_of (by omega)
    refine al_ite (fun c => al_oV' (fun g12 h12 => ?_)) (fun c => ?_)
    · have b := become_ok isZ57 isZ43 (by decide) h g12 h12
      have C1 := b.sc isZ57 isZ43 C
      have C43 : SC 43 Y y st g12 := C.keep isZ43 (fun b' k hb => b.v b' k (by omega))
      refine split_75 (N := yN Y) hN8 (x := v6) (h0 := g12) C43.2.2.1 (fun g F T => al_oI (fun r g20 hr => ?_)) _ 0 g12 (by decide) (by rw [ti0]; omega) (fun _ _ _ => rfl) (fun j hj => absurd hj (by rw [ti0]; exact Nat.not_lt_zero j))
      obtain ⟨x1, x2⟩ := pass_u R W h1 hm hN8 (C1.tab isZ57 (tb := tbB v6) F T) hr
      have vg : cV g20 h0 := x2.trans ((show cV g g12 from fun a k x => F a k (by omega)).trans (b.v.trans V))
      have x1' : r = spS Y y st m v6.toInt.toNat := by
        rw [x1]
        unfold spS
        rw [← e6]
      refine al_ite (fun z => split_54 R W h1 hm h5 hM C0 Kk n _ _ (v6 + 1) g20 (by omega) (by omega) ?_ ?_ vg) (fun z => split_54 R W h1 hm h5 hM C0 Kk n _ _ (v6 + 1) g20 (by omega) (by omega) ?_ ?_ vg)
      · rw [en, fbS, if_pos (by rw [← e4, ← x1']; exact z)]; exact e6
      · rw [en, fbS, if_pos (by rw [← e4, ← x1']; exact z)]; exact x1'
      · rw [en, fbS, if_neg (by rw [← e4, ← x1']; exact z)]; exact e3
      · rw [en, fbS, if_neg (by rw [← e4, ← x1']; exact z)]; exact e4
    · rw [show v6.toInt.toNat = M by omega] at e3 e4
      rw [e3, e4]
      exact Kk h V
/-! the reference -/
theorem msplit_51 {N : Nat} (hN8 : N ≤ 8) {x : Int32} {h0 : dH} (hN : (h0 0 13).toInt = N) {k : dH → Option (Int32 × dH)} {P : Int32 × dH → Prop} (Kk : ∀ g, (∀ b j, ¬ (b = 6 ∧ j < N) → g b j = h0 b j) → (∀ j, j < N → g 6 j = tbB x j) → Al (k g) P) : ∀ (n : Nat) (v7 : Int32) (h : dH), 0 ≤ v7.toInt → v7.toInt ≤ N → (∀ b j, ¬ (b = 6 ∧ j < N) → h b j = h0 b j) → (∀ j, j < v7.toInt.toNat → h 6 j = tbB x j) → Al (l_X7_split_51 x k n v7 h) P
  | 0, _, _, _, _, _, _ => al_none
  | n + 1, v7, h, p0, p1, F, T => by
    rw [l_X7_split_51, F 0 13 (by omega), hN]
    have t := inc1 (v := v7) (by omega)
    have en : (v7 + 1).toInt.toNat = v7.toInt.toNat + 1 := by omega
    refine al_ite (fun c => al_ite (fun _ => al_oH' (fun g hg => msplit_51 hN8 hN Kk n (v7 + 1) g (by omega) (by omega) (fun b j q => by rw [hg, dU_ne (by omega)]; exact F b j q) (fun j hj => ?_))) (fun _ => al_none)) (fun c => Kk h F (fun j hj => T j (by omega)))
    by_cases ej : j = v7.toInt.toNat
    · rw [ej, hg, dU_eq]
      unfold tbB
      rw [← i32_of (v := v7) (by omega)]
    · rw [hg, dU_ne (by omega)]
      exact T j (by omega)
/-- all but what it scribbles (not the tables aside), and tables -/
def uFr (N : Nat) (g h : dH) : Prop := (∀ a k, ¬ (a = 0 ∧ 14 ≤ k ∧ k ≤ 28) → ¬ (a = 0 ∧ k = 34) → ¬ (8 ≤ a ∧ a ≤ 9) → ¬ (a = 7 ∧ 64 ≤ k) → ¬ (a = 6 ∧ k < N) → g a k = h a k)
theorem uFr.t {N : Nat} {g h : dH} (q : uFr N g h) : tFr g h := fun a k x y z w v => q a k x y (by omega) w (by omega)
theorem msplit_37 {Y : zY} {y : Int32} {st : zT2} {v1 : Int32} {m : Nat} (h1 : v1.toInt = m) (hm : m < 1000) {h0 : dH} (M0 : SM Y y st h0) (n0 : mNo h0) {k : Int32 → Int32 → dH → Option (Int32 × dH)} {P : Int32 × dH → Prop} (Kk : ∀ g, uFr (yN Y) g h0 → Al (k (fbS (spS Y y st m) (0, -1) (2 ^ yN Y)).1 (fbS (spS Y y st m) (0, -1) (2 ^ yN Y)).2 g) P) : ∀ (n : Nat) (v3 v4 v5 : Int32) (h : dH), 0 ≤ v5.toInt → v5.toInt ≤ (2 ^ yN Y : Nat) → v3 = (fbS (spS Y y st m) (0, -1) v5.toInt.toNat).1 → v4 = (fbS (spS Y y st m) (0, -1) v5.toInt.toNat).2 → uFr (yN Y) h h0 → Al (l_X7_split_37 v1 k n v3 v4 v5 h) P
  | 0, _, _, _, _, _, _, _, _, _ => al_none
  | n + 1, v3, v4, v5, h, p0, p1, e3, e4, V => by
    have hN8 := M0.2.2.2.1
    have p256 : (2 : Nat) ^ yN Y ≤ 256 := Nat.pow_le_pow_right (n := 2) (by omega) hN8
    have eN : (h 0 13).toInt = yN Y := by rw [V 0 13 (by omega) (by omega) (by omega) (by omega) (by omega)]; exact M0.2.2.1
    rw [l_X7_split_37, shl_pow eN hN8]
    have t := inc1 (v := v5) (by omega)
    have en : (v5 + 1).toInt.toNat = v5.toInt.toNat + 1 := by omega
    have e5 : v5 = Int32.ofNat v5.toInt.toNat := i32_of (by omega)
    refine al_ite (fun c => ?_) (fun c => ?_)
    · refine msplit_51 (N := yN Y) hN8 (x := v5) (h0 := h) eN (fun g F T => al_oI (fun r g20 hr => ?_)) _ 0 h (by decide) (by rw [ti0]; omega) (fun _ _ _ => rfl) (fun j hj => absurd hj (by rw [ti0]; exact Nat.not_lt_zero j))
      have Fg : uFr (yN Y) g h0 := fun a k x1 x2 x3 x4 x5 => by rw [F a k x5]; exact V a k x1 x2 x3 x4 x5
      obtain ⟨x1, x2, x3, x4⟩ := behind_u h1 hm M0 Fg.t T n0 hr
      have vg : uFr (yN Y) g20 h0 := fun a k y1 y2 y3 y4 y5 => by
        by_cases c10 : a = 10
        · rw [c10, x3]; exact Fg 10 k (by omega) (by omega) (by omega) (by omega) (by omega)
        · rw [x2 a k y1 y2 (by omega) y4]; exact Fg a k y1 y2 y3 y4 y5
      have x1' : r = spS Y y st m v5.toInt.toNat := by
        rw [x1]
        unfold spS
        rw [← e5]
      refine al_ite (fun z => msplit_37 h1 hm M0 n0 Kk n _ _ (v5 + 1) g20 (by omega) (by omega) ?_ ?_ vg) (fun z => msplit_37 h1 hm M0 n0 Kk n _ _ (v5 + 1) g20 (by omega) (by omega) ?_ ?_ vg)
      · rw [en, fbS, if_pos (by rw [← e4, ← x1']; exact z)]; exact e5
      · rw [en, fbS, if_pos (by rw [← e4, ← x1']; exact z)]; exact x1'
      · rw [en, fbS, if_neg (by rw [← e4, ← x1']; exact z)]; exact e3
      · rw [en, fbS, if_neg (by rw [← e4, ← x1']; exact z)]; exact e4
    · rw [show v5.toInt.toNat = 2 ^ yN Y by omega] at e3 e4
      rw [e3, e4]
      exact Kk h V
theorem op_split {hC hM : dH} (q : RR hC hM) (v1 v2 : Int32) : Op2 (f_X6_split v1 v2 hC) (f_X7_split v1 v2 hM) := by
  obtain ⟨C, M, W, R, T⟩ := q.st
  have l0 := L0
  have l1 := L1
  have l2 := L2
  have hN8 := C.2.2.2.1
  unfold Op2 f_X6_split
  have ref : (¬ (0 ≤ v1.toInt ∧ v1.toInt ≤ 2) ∨ ¬ (v2.toInt = 0 ∨ v2.toInt = 1)) → Al (some ((-2 : Int32), hC)) (fun o => Al (f_X7_split v1 v2 hM) (fun o2 => o.1 = o2.1 ∧ RR o.2 o2.2)) := by
    intro w
    refine al_some (al_in (fun r qr => al_ite (fun _ => al_some ⟨rfl, q⟩) (fun z => al_in (fun r2 q2 => al_ite (fun _ => al_some ⟨rfl, q⟩) (fun z => by omega)))))
  refine al_ite (fun d => ref (by omega)) (fun d => al_ite (fun d2 => ref (by omega)) (fun d2 => al_oP (fun r3 h3 => ?_)))
  have q3 := either6 r3 h3
  have hv : v1.toInt = (v1.toInt.toNat : Int) := by omega
  refine al_ite (fun e => ref (by omega)) (fun e => ?_)
  have fin : ∀ (g : dH), cV g hC → Al (if v2.toInt = 0 then (some ((fbS (spS (yOf 43 hC) (hC 43 0) (stOf 43 hC) v1.toInt.toNat) (0, -1) (2 ^ yN (yOf 43 hC))).1, g)) else (some ((fbS (spS (yOf 43 hC) (hC 43 0) (stOf 43 hC) v1.toInt.toNat) (0, -1) (2 ^ yN (yOf 43 hC))).2, g))) (fun o => Al (f_X7_split v1 v2 hM) (fun o2 => o.1 = o2.1 ∧ RR o.2 o2.2)) := by
    intro g V
    have mm : ∀ (x : Int32), x = (if v2.toInt = 0 then (fbS (spS (yOf 43 hC) (hC 43 0) (stOf 43 hC) v1.toInt.toNat) (0, -1) (2 ^ yN (yOf 43 hC))).1 else (fbS (spS (yOf 43 hC) (hC 43 0) (stOf 43 hC) v1.toInt.toNat) (0, -1) (2 ^ yN (yOf 43 hC))).2) → Al (f_X7_split v1 v2 hM) (fun o2 => x = o2.1 ∧ RR g o2.2) := by
      intro x hx
      refine al_in (fun r qr => al_ite (fun z => by omega) (fun z => al_in (fun r2 q2 => al_ite (fun z => by omega) (fun z => al_oV' (fun m7 h7 => ?_)))))
      have q1 := clears_ok hN8 M.2.2.1 m7 h7
      have M7 : SM (yOf 43 hC) (hC 43 0) (stOf 43 hC) m7 := M.b (fun a k _ _ z _ => q1.2 a k (by omega))
      have n7 : mNo m7 := mNo.b (fun a k _ _ z _ => q1.2 a k (by omega)) q.2.2.2.2.2
      refine msplit_37 hv (by omega) M7 n7 (fun gm F => al_oV' (fun g25 h25 => ?_)) fuel0 0 (-1) 0 m7 (by decide) (by rw [ti0]; exact Int.natCast_nonneg _) (by rw [ti0]; rfl) (by rw [ti0]; rfl) (fun _ _ _ _ _ _ _ => rfl)
      have eN : (gm 0 13).toInt = yN (yOf 43 hC) := by rw [F 0 13 (by omega) (by omega) (by omega) (by omega) (by omega)]; exact M7.2.2.1
      have s := sits_ok hN8 eN g25 h25
      have FF : bFr g25 hM := fun a k x1 x2 x3 x4 => by
        by_cases c : a = 6 ∧ k < yN (yOf 43 hC)
        · obtain ⟨rfl, hk⟩ := c
          rw [s.1 k hk, F 10 k (by omega) (by omega) (by omega) (by omega) (by omega), q1.1 k hk]
        · rw [s.2 a k c, F a k x1 x2 (by omega) x4 c, q1.2 a k (by omega)]
      have kk := q.keep V FF
      refine al_ite (fun z => al_some ⟨?_, kk⟩) (fun z => al_some ⟨?_, kk⟩)
      · rw [hx, if_pos z]
      · rw [hx, if_neg z]
    exact al_ite (fun z => al_some (mm _ (if_pos z).symm)) (fun z => al_some (mm _ (if_neg z).symm))
  have hN := C.2.2.1
  refine al_ite (fun c => ?_) (fun c => ?_)
  · have es : ((hC 43 2) - 1).toInt = ((yN (yOf 43 hC) - 1 : Nat) : Int) := by
      have := i_sub (a := hC 43 2) (b := 1) hN ti1 (by omega) (by omega)
      rw [this]; omega
    have p256 : (2 : Nat) ^ (yN (yOf 43 hC) - 1) ≤ 256 := Nat.le_trans (Nat.pow_le_pow_right (n := 2) (by omega) (show yN (yOf 43 hC) - 1 ≤ 8 by omega)) (by decide)
    refine split_54 R W hv (by omega) (M := 2 ^ (yN (yOf 43 hC) - 1)) (shl_pow es (by omega)) p256 C (fun g V => ?_) fuel0 0 (-1) 0 hC (by decide) (by rw [ti0]; exact Int.natCast_nonneg _) (by rw [ti0]; rfl) (by rw [ti0]; rfl) (cV.refl _)
    have f := fin g V
    rw [sp_half hN8 (by omega)] at f
    exact f
  · have e0 : yN (yOf 43 hC) = 0 := by omega
    refine split_54 R W hv (by omega) (M := 1) ti1 (by omega) C (fun g V => ?_) fuel0 0 (-1) 0 hC (by decide) (by decide) (by rw [ti0]; rfl) (by rw [ti0]; rfl) (cV.refl _)
    have f := fin g V
    rw [e0] at f
    exact f
end
