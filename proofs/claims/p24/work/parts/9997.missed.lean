/-! who would be missed; who brings whom together -/
noncomputable section
def memH (N h : Nat) (j : Nat) : Bool := decide (j < N) && !decide (j = h)
theorem kS_self {Y : zY} {st : zT2} {i j : Nat} (h : i = j) : knS Y st i j = false := if_pos h
theorem kS_lt {Y : zY} {st : zT2} {i j : Nat} (h : ¬ i = j) (h4 : (st i j).toInt < (yL Y).toInt) : knS Y st i j = false := (if_neg h).trans (if_pos h4)
theorem kS_ge {Y : zY} {st : zT2} {i j : Nat} (h : ¬ i = j) (h4 : ¬ (st i j).toInt < (yL Y).toInt) : knS Y st i j = true := (if_neg h).trans (if_neg h4)
theorem kMem_gone {Y : zY} {st : zT2} {h i j : Nat} (hi : i < yN Y) (hj : j < yN Y) : kMem (knS Y st) (memH (yN Y) h) i j = knM Y st (-1) (-1) (h : Int) i j := by
  unfold kMem memH
  rw [decide_eq_true hi, decide_eq_true hj, Bool.true_and, Bool.true_and]
  by_cases c : i = j
  · rw [kS_self c, kM_self c, Bool.false_and]
  · by_cases d : i = h
    · rw [kM_gi c (by omega), decide_eq_true d, Bool.not_true, Bool.false_and, Bool.and_false]
    · rw [decide_eq_false d, Bool.not_false, Bool.true_and]
      by_cases e : j = h
      · rw [kM_gj c (by omega) (by omega), decide_eq_true e, Bool.not_true, Bool.and_false]
      · rw [decide_eq_false e, Bool.not_false, Bool.and_true]
        by_cases f : (st i j).toInt < (yL Y).toInt
        · rw [kS_lt c f, kM_lt c (by omega) (by omega) f]
          exact (decide_eq_false (by omega)).symm
        · rw [kS_ge c f, kM_ge c (by omega) (by omega) f]
def goS (Y : zY) (st : zT2) (t : Nat) : Int32 := cnt32 (isFm (knM Y st (-1) (-1) (t : Int)) (yN Y) (t : Int)) (yN Y)
theorem missed_28 {Y : zY} {y : Int32} {st : zT2} {h : dH} (C : SC 43 Y y st h) (W : Wf (yN Y) st) (Q : CQ (knS Y st) (yN Y) h) {k : Int32 → Int32 → Option (Int32 × dH)} {P : Int32 × dH → Prop} (Kk : Al (k (fbS (goS Y st) (-1, -1) (yN Y)).1 (fbS (goS Y st) (-1, -1) (yN Y)).2) P) : ∀ (n : Nat) (v2 v3 v4 : Int32), 0 ≤ v4.toInt → v4.toInt ≤ yN Y → v2 = (fbS (goS Y st) (-1, -1) v4.toInt.toNat).1 → v3 = (fbS (goS Y st) (-1, -1) v4.toInt.toNat).2 → Al (l_X6_missed_28 h k n v2 v3 v4) P
  | 0, _, _, _, _, _, _, _ => al_none
  | n + 1, v2, v3, v4, p0, p1, e2, e3 => by
    have hN8 := C.2.2.2.1
    rw [l_X6_missed_28, C.2.2.1]
    have t := inc1 (v := v4) (by omega)
    obtain ⟨i, hi⟩ : ∃ i, v4.toInt.toNat = i := ⟨_, rfl⟩
    have hi' : v4.toInt = i := by omega
    have en : (v4 + 1).toInt.toNat = i + 1 := by omega
    rw [hi] at e2 e3
    refine al_ite (fun c => al_oP (fun r7 h7 => al_oP (fun r8 h8 => ?_))) (fun c => ?_)
    · have ev := everyone_ok Q r7 h7
      have hm : ∀ m, bt (r7 &&& (dshl 1 v4 ^^^ (-1))) m = memH (yN Y) i m := by
        intro m
        rw [bt_and, bt_xor, ev m, bt_one hi' (by omega)]
        unfold memH
        by_cases hm : m < yN Y
        · rw [bt_m1 (by omega), decide_eq_true hm, Bool.true_and, Bool.true_and, Bool.xor_true]
        · rw [decide_eq_false hm, Bool.false_and, Bool.false_and]
      have r := companies_ok Q (kn_sym W) hm r8 h8
      have er : r8 = goS Y st i := by
        rw [r]
        exact cnt_F (kn_sym W) (fun a ha => by unfold memH; rw [decide_eq_true ha, Bool.true_and, Bool.not_eq_true', decide_eq_false_iff_not]; omega) (fun a b ha hb => kMem_gone ha hb)
      refine al_ite (fun z => missed_28 C W Q Kk n _ _ (v4 + 1) (by omega) (by omega) ?_ ?_) (fun z => missed_28 C W Q Kk n _ _ (v4 + 1) (by omega) (by omega) ?_ ?_)
      · rw [en, fbS, if_pos (by rw [← e3, ← er]; exact z)]; exact i32_of hi'
      · rw [en, fbS, if_pos (by rw [← e3, ← er]; exact z)]; exact er
      · rw [en, fbS, if_neg (by rw [← e3, ← er]; exact z)]; exact e2
      · rw [en, fbS, if_neg (by rw [← e3, ← er]; exact z)]; exact e3
    · rw [show i = yN Y by omega] at e2 e3
      rw [e2, e3]
      exact Kk
theorem mmissed_20 {Y : zY} {y : Int32} {st : zT2} {h0 : dH} (M0 : SM Y y st h0) (n0 : mNo h0) {k : Int32 → Int32 → dH → Option (Int32 × dH)} {P : Int32 × dH → Prop} (Kk : ∀ g, bFr g h0 → Al (k (fbS (goS Y st) (-1, -1) (yN Y)).1 (fbS (goS Y st) (-1, -1) (yN Y)).2 g) P) : ∀ (n : Nat) (v2 v3 v4 : Int32) (h : dH), 0 ≤ v4.toInt → v4.toInt ≤ yN Y → v2 = (fbS (goS Y st) (-1, -1) v4.toInt.toNat).1 → v3 = (fbS (goS Y st) (-1, -1) v4.toInt.toNat).2 → bFr h h0 → Al (l_X7_missed_20 k n v2 v3 v4 h) P
  | 0, _, _, _, _, _, _, _, _, _ => al_none
  | n + 1, v2, v3, v4, h, p0, p1, e2, e3, F => by
    have hN8 := M0.2.2.2.1
    have M := M0.b F
    have n1 := mNo.b F n0
    rw [l_X7_missed_20, M.2.2.1]
    have t := inc1 (v := v4) (by omega)
    obtain ⟨i, hi⟩ : ∃ i, v4.toInt.toNat = i := ⟨_, rfl⟩
    have hi' : v4.toInt = i := by omega
    have en : (v4 + 1).toInt.toNat = i + 1 := by omega
    rw [hi] at e2 e3
    refine al_ite (fun c => al_oH' (fun g6 h6 => al_oV' (fun g7 h7 => al_oP (fun r8 h8 => al_oH' (fun g9 h9 => ?_))))) (fun c => ?_)
    · have e6 : ∀ a k, ¬ (a = 0 ∧ k = 31) → g6 a k = h a k := fun a k q => by rw [h6]; exact dU_ne q
      have M6 : SM Y y st g6 := by
        obtain ⟨a0, a1, a2, a3, a4, a5, a6⟩ := M
        exact ⟨by rw [e6 0 7 (by omega)]; exact a0, by rw [e6 0 8 (by omega)]; exact a1, by rw [e6 0 13 (by omega)]; exact a2, a3, fun j hj => by rw [e6 4 j (by omega), e6 5 j (by omega), e6 6 j (by omega)]; exact a4 j hj, fun a b ha hb => by rw [e6 7 _ (by omega)]; exact a5 a b ha hb, a6.same (fun k => e6 1 k (by omega)) (fun k => e6 2 k (by omega)) (e6 0 4 (by omega))⟩
      have K6 := M6.knm (ea := -1) (eb := -1) (gn := (i : Int)) (by rw [e6 0 29 (by omega)]; exact n1.1) (by rw [e6 0 30 (by omega)]; exact n1.2.1) (by rw [h6, dU_eq]; exact hi')
      obtain ⟨x1, x2⟩ := waysAll_ok K6 M6.2.2.1 hN8 g7 h7
      have er : r8 = goS Y st i := mcomp_ok x1 (gn := (i : Int)) (by rw [x2 0 31 (by omega), h6, dU_eq]; exact hi') r8 h8
      have F9 : bFr g9 h0 := bFr.trans (fun a k y1 y2 y3 y4 => by
        by_cases e : a = 0 ∧ k = 31
        · obtain ⟨rfl, rfl⟩ := e
          rw [h9, dU_eq]
          exact (Int32.toInt_inj.mp (n1.2.2.trans tm1.symm)).symm
        · rw [h9, dU_ne e, x2 a k (by omega), e6 a k e]) F
      refine al_ite (fun z => mmissed_20 M0 n0 Kk n _ _ (v4 + 1) g9 (by omega) (by omega) ?_ ?_ F9) (fun z => mmissed_20 M0 n0 Kk n _ _ (v4 + 1) g9 (by omega) (by omega) ?_ ?_ F9)
      · rw [en, fbS, if_pos (by rw [← e3, ← er]; exact z)]; exact i32_of hi'
      · rw [en, fbS, if_pos (by rw [← e3, ← er]; exact z)]; exact er
      · rw [en, fbS, if_neg (by rw [← e3, ← er]; exact z)]; exact e2
      · rw [en, fbS, if_neg (by rw [← e3, ← er]; exact z)]; exact e3
    · rw [show i = yN Y by omega] at e2 e3
      rw [e2, e3]
      exact Kk h F
theorem op_missed {hC hM : dH} (q : RR hC hM) (v1 : Int32) : Op2 (f_X6_missed v1 hC) (f_X7_missed v1 hM) := by
  obtain ⟨C, M, W, R, T⟩ := q.st
  have l0 := L0
  have l1 := L1
  unfold Op2 f_X6_missed
  refine al_oP (fun r3 h3 => ?_)
  have q3 := either6 r3 h3
  refine al_ite (fun d => al_some (al_in (fun r qr => al_ite (fun _ => al_some ⟨rfl, q⟩) (fun z => by omega)))) (fun d => al_oV' (fun g4 h4 => ?_))
  obtain ⟨x1, x2⟩ := see_ok isZ43 C.kn C.2.2.1 C.2.2.2.1 g4 h4
  have C4 : SC 43 (yOf 43 hC) (hC 43 0) (stOf 43 hC) g4 := C.keep isZ43 (fun b k hb => x2 b k (by omega) (by omega))
  refine missed_28 C4 W x1 ?_ fuel0 (-1) (-1) 0 (by decide) (by rw [ti0]; omega) (by rw [ti0]; rfl) (by rw [ti0]; rfl)
  have mm : ∀ (x : Int32), x = (if v1.toInt = 0 then (fbS (goS (yOf 43 hC) (stOf 43 hC)) (-1, -1) (yN (yOf 43 hC))).1 else (fbS (goS (yOf 43 hC) (stOf 43 hC)) (-1, -1) (yN (yOf 43 hC))).2) → Al (f_X7_missed v1 hM) (fun o2 => x = o2.1 ∧ RR g4 o2.2) := by
    intro x hx
    refine al_in (fun r qr => al_ite (fun z => by omega) (fun z => ?_))
    refine mmissed_20 M q.2.2.2.2.2 (fun gm F => ?_) fuel0 (-1) (-1) 0 hM (by decide) (by rw [ti0]; omega) (by rw [ti0]; rfl) (by rw [ti0]; rfl) (bFr.refl _)
    have kk := q.keep x2.v F
    refine al_ite (fun z => al_some ⟨?_, kk⟩) (fun z => al_some ⟨?_, kk⟩)
    · rw [hx, if_pos z]
    · rw [hx, if_neg z]
  exact al_ite (fun z => al_some (mm _ (if_pos z).symm)) (fun z => al_some (mm _ (if_neg z).symm))
/-! a match -/
/-- the longest way, were these two to know each other -/
def lgE (K : Nat → Nat → Bool) (N : Nat) : Int32 := Classical.epsilon (fun r : Int32 => isMx (vlS K N 9) N r.toInt)
theorem lgE_of {K : Nat → Nat → Bool} {N : Nat} {r : Int32} (h : isMx (vlS K N 9) N r.toInt) : r = lgE K N := by
  have e : isMx (vlS K N 9) N (lgE K N).toInt := Classical.epsilon_spec (p := fun r : Int32 => isMx (vlS K N 9) N r.toInt) ⟨r, h⟩
  exact Int32.toInt_inj.mp (h.uniq e)
theorem vl_congr {K L : Nat → Nat → Bool} {N : Nat} (h : ∀ i j, i < N → j < N → K i j = L i j) {w M : Int} (q : isMx (vlS K N w) N M) : isMx (vlS L N w) N M := by
  have e : ∀ i j, i < N → j < N → vlS K N w i j = vlS L N w i j := fun i j hi hj => by unfold vlS; rw [fw_congr h hi hj]
  refine ⟨fun i j h1 h2 => by rw [← e i j (by omega) h2]; exact q.1 i j h1 h2, q.2.1, ?_⟩
  rcases q.2.2 with z | ⟨i, j, h1, h2, h3⟩
  · exact Or.inl z
  · exact Or.inr ⟨i, j, h1, h2, by rw [← e i j (by omega) h2]; exact h3⟩
theorem tn_knM {Y : zY} {st : zT2} (W : Wf (yN Y) st) {p q : Nat} (hp : p < yN Y) (hq : q < yN Y) (hpq : ¬ p = q) (hn : knS Y st p q = false) {i j : Nat} (hi : i < yN Y) (hj : j < yN Y) : tnK (knS Y st) p q i j = knM Y st (p : Int) (q : Int) (-1) i j := by
  have hn2 : knS Y st q p = false := by
    cases e : knS Y st q p with
    | false => rfl
    | true => rw [kn_sym W q p hq hp e] at hn; cases hn
  unfold tnK
  by_cases c : (i = p ∧ j = q) ∨ (i = q ∧ j = p)
  · rw [decide_eq_true c]
    have k0 : knS Y st i j = false := by
      rcases c with ⟨rfl, rfl⟩ | ⟨rfl, rfl⟩
      · exact hn
      · exact hn2
    rw [k0]
    have lt : (st i j).toInt < (yL Y).toInt := by
      unfold knS at k0
      rw [if_neg (by omega)] at k0
      by_cases f : (st i j).toInt < (yL Y).toInt
      · exact f
      · rw [if_neg f] at k0; cases k0
    rw [kM_lt (by omega) (by omega) (by omega) lt, decide_eq_true (by omega)]
    rfl
  · rw [decide_eq_false c, Bool.xor_false]
    by_cases d : i = j
    · rw [kS_self d, kM_self d]
    · by_cases f : (st i j).toInt < (yL Y).toInt
      · rw [kS_lt d f, kM_lt d (by omega) (by omega) f]
        exact (decide_eq_false (by omega)).symm
      · rw [kS_ge d f, kM_ge d (by omega) (by omega) f]
def maS (Y : zY) (st : zT2) (i j : Nat) (s : Int32 × Int32) : Int32 × Int32 := if knS Y st i j = true then s else if (lgE (knM Y st (i : Int) (j : Int) (-1)) (yN Y)).toInt < s.2.toInt then (10 * Int32.ofNat i + Int32.ofNat j, lgE (knM Y st (i : Int) (j : Int) (-1)) (yN Y)) else s
theorem ma1 {Y : zY} {st : zT2} {i j : Nat} {s : Int32 × Int32} (h : knS Y st i j = true) : maS Y st i j s = s := if_pos h
theorem ma2 {Y : zY} {st : zT2} {i j : Nat} {s : Int32 × Int32} (h : ¬ knS Y st i j = true) (h2 : (lgE (knM Y st (i : Int) (j : Int) (-1)) (yN Y)).toInt < s.2.toInt) : maS Y st i j s = (10 * Int32.ofNat i + Int32.ofNat j, lgE (knM Y st (i : Int) (j : Int) (-1)) (yN Y)) := (if_neg h).trans (if_pos h2)
theorem ma3 {Y : zY} {st : zT2} {i j : Nat} {s : Int32 × Int32} (h : ¬ knS Y st i j = true) (h2 : ¬ (lgE (knM Y st (i : Int) (j : Int) (-1)) (yN Y)).toInt < s.2.toInt) : maS Y st i j s = s := (if_neg h).trans (if_neg h2)
theorem t9 : (9 : Int32).toInt = 9 := by decide
theorem match_54 {Y : zY} {y : Int32} {st : zT2} (W : Wf (yN Y) st) {v4 : Int32} {i : Nat} (h4 : v4.toInt = i) (hi : i < yN Y) {h0 : dH} (C0 : SC 43 Y y st h0) {s0 : Int32 × Int32} {k : Int32 → Int32 → dH → Option (Int32 × dH)} {P : Int32 × dH → Prop} (Kk : ∀ g, oFr g h0 → CQ (knS Y st) (yN Y) g → Al (k (fIn (maS Y st) i (yN Y) s0).1 (fIn (maS Y st) i (yN Y) s0).2 g) P) : ∀ (n : Nat) (v2 v3 v5 : Int32) (h : dH), i < v5.toInt → v5.toInt ≤ yN Y → v2 = (fIn (maS Y st) i v5.toInt.toNat s0).1 → v3 = (fIn (maS Y st) i v5.toInt.toNat s0).2 → oFr h h0 → CQ (knS Y st) (yN Y) h → Al (l_X6_match_54 v4 k n v2 v3 v5 h) P
  | 0, _, _, _, _, _, _, _, _, _, _ => al_none
  | n + 1, v2, v3, v5, h, p0, p1, e2, e3, F, Q => by
    have hN8 := C0.2.2.2.1
    have C : SC 43 Y y st h := C0.keep isZ43 (fun b k hb => F b k (by omega) (by omega))
    rw [l_X6_match_54, C.2.2.1]
    have t := inc1 (v := v5) (by omega)
    obtain ⟨j, hj⟩ : ∃ j, v5.toInt.toNat = j := ⟨_, rfl⟩
    have hj' : v5.toInt = j := by omega
    have en : (v5 + 1).toInt.toNat = j + 1 := by omega
    rw [hj] at e2 e3
    refine al_ite (fun c => al_oP (fun r10 h10 => ?_)) (fun c => ?_)
    · have hjN : j < yN Y := by omega
      have ef : fIn (maS Y st) i (j + 1) s0 = maS Y st i j (fIn (maS Y st) i j s0) := by rw [fIn, if_pos (by omega)]
      have kq := C.kn v4 v5 i j h4 hj' hi hjN r10 h10
      refine al_ite (fun z => al_oV' (fun g13 h13 => al_oP (fun r14 h14 => al_oV' (fun g15 h15 => ?_)))) (fun z => match_54 W h4 hi C0 Kk n v2 v3 (v5 + 1) h (by omega) (by omega) (by rw [en, ef, ma1 (kq.yes z)]; exact e2) (by rw [en, ef, ma1 (kq.yes z)]; exact e3) F Q)
      have nk := kq.no z
      have nk' : knS Y st i j = false := by
        cases e : knS Y st i j with
        | false => rfl
        | true => exact absurd e nk
      obtain ⟨Q13, F13⟩ := turn_ok Q hi hjN (by omega) h4 hj' g13 h13
      have lg := longest_ok Q13 r14 h14
      rw [t9] at lg
      have er := lgE_of (vl_congr (fun a b ha hb => tn_knM W hi hjN (by omega) nk' ha hb) lg)
      obtain ⟨Q15, F15⟩ := turn_ok Q13 hi hjN (by omega) h4 hj' g15 h15
      have Q15' : CQ (knS Y st) (yN Y) g15 := Q15.congr (fun a b _ _ => tnK_two)
      have F15' : oFr g15 h0 := F15.trans (F13.trans F)
      have e5 := i32_of hj'
      have e4 := i32_of h4
      refine al_ite (fun z2 => match_54 W h4 hi C0 Kk n _ _ (v5 + 1) g15 (by omega) (by omega) ?_ ?_ F15' Q15') (fun z2 => match_54 W h4 hi C0 Kk n _ _ (v5 + 1) g15 (by omega) (by omega) ?_ ?_ F15' Q15')
      · rw [en, ef, ma2 nk (by rw [← e3, ← er]; exact z2), e4, e5]
      · rw [en, ef, ma2 nk (by rw [← e3, ← er]; exact z2)]; exact er
      · rw [en, ef, ma3 nk (by rw [← e3, ← er]; exact z2)]; exact e2
      · rw [en, ef, ma3 nk (by rw [← e3, ← er]; exact z2)]; exact e3
    · rw [show j = yN Y by omega] at e2 e3
      rw [e2, e3]
      exact Kk h F Q
theorem match_36 {Y : zY} {y : Int32} {st : zT2} (W : Wf (yN Y) st) {h0 : dH} (C0 : SC 43 Y y st h0) {s0 : Int32 × Int32} {k : Int32 → Int32 → dH → Option (Int32 × dH)} {P : Int32 × dH → Prop} (Kk : ∀ g, oFr g h0 → Al (k (fOut (maS Y st) (yN Y) (yN Y) s0).1 (fOut (maS Y st) (yN Y) (yN Y) s0).2 g) P) : ∀ (n : Nat) (v2 v3 v4 : Int32) (h : dH), 0 ≤ v4.toInt → v4.toInt ≤ yN Y → v2 = (fOut (maS Y st) (yN Y) v4.toInt.toNat s0).1 → v3 = (fOut (maS Y st) (yN Y) v4.toInt.toNat s0).2 → oFr h h0 → CQ (knS Y st) (yN Y) h → Al (l_X6_match_36 k n v2 v3 v4 h) P
  | 0, _, _, _, _, _, _, _, _, _, _ => al_none
  | n + 1, v2, v3, v4, h, p0, p1, e2, e3, F, Q => by
    have hN8 := C0.2.2.2.1
    have C : SC 43 Y y st h := C0.keep isZ43 (fun b k hb => F b k (by omega) (by omega))
    rw [l_X6_match_36, C.2.2.1]
    have t := inc1 (v := v4) (by omega)
    have en : (v4 + 1).toInt.toNat = v4.toInt.toNat + 1 := by omega
    refine al_ite (fun c => ?_) (fun c => ?_)
    · refine match_54 W (i := v4.toInt.toNat) (by omega) (by omega) C0 (s0 := fOut (maS Y st) (yN Y) v4.toInt.toNat s0) (fun g Fg Qg => ?_) fuel0 v2 v3 (v4 + 1) h (by omega) (by omega) (by rw [fIn_le _ (by omega)]; exact e2) (by rw [fIn_le _ (by omega)]; exact e3) F Q
      exact match_36 W C0 Kk n _ _ (v4 + 1) g (by omega) (by omega) (by rw [en]; rfl) (by rw [en]; rfl) Fg Qg
    · rw [show v4.toInt.toNat = yN Y by omega] at e2 e3
      rw [e2, e3]
      exact Kk h F
theorem mmatch_44 {Y : zY} {y : Int32} {st : zT2} (W : Wf (yN Y) st) {v4 : Int32} {i : Nat} (h4 : v4.toInt = i) (hi : i < yN Y) {h0 : dH} (M0 : SM Y y st h0) (n0 : mNo h0) {s0 : Int32 × Int32} {k : Int32 → Int32 → dH → Option (Int32 × dH)} {P : Int32 × dH → Prop} (Kk : ∀ g, bFr g h0 → Al (k (fIn (maS Y st) i (yN Y) s0).1 (fIn (maS Y st) i (yN Y) s0).2 g) P) : ∀ (n : Nat) (v2 v3 v5 : Int32) (h : dH), i < v5.toInt → v5.toInt ≤ yN Y → v2 = (fIn (maS Y st) i v5.toInt.toNat s0).1 → v3 = (fIn (maS Y st) i v5.toInt.toNat s0).2 → bFr h h0 → Al (l_X7_match_44 v4 k n v2 v3 v5 h) P
  | 0, _, _, _, _, _, _, _, _, _ => al_none
  | n + 1, v2, v3, v5, h, p0, p1, e2, e3, F => by
    have hN8 := M0.2.2.2.1
    have M := M0.b F
    have n1 := mNo.b F n0
    rw [l_X7_match_44, M.2.2.1]
    have t := inc1 (v := v5) (by omega)
    obtain ⟨j, hj⟩ : ∃ j, v5.toInt.toNat = j := ⟨_, rfl⟩
    have hj' : v5.toInt = j := by omega
    have en : (v5 + 1).toInt.toNat = j + 1 := by omega
    rw [hj] at e2 e3
    refine al_ite (fun c => al_oP (fun r10 h10 => ?_)) (fun c => ?_)
    · have hjN : j < yN Y := by omega
      have ef : fIn (maS Y st) i (j + 1) s0 = maS Y st i j (fIn (maS Y st) i j s0) := by rw [fIn, if_pos (by omega)]
      have kq := M.kn n1 v4 v5 i j h4 hj' hi hjN r10 h10
      refine al_ite (fun z => al_oH' (fun g13 h13 => al_oH' (fun g14 h14 => al_oV' (fun g15 h15 => al_oH' (fun g16 h16 => al_oH' (fun g17 h17 => al_oP (fun r18 h18 => ?_))))))) (fun z => mmatch_44 W h4 hi M0 n0 Kk n v2 v3 (v5 + 1) h (by omega) (by omega) (by rw [en, ef, ma1 (kq.yes z)]; exact e2) (by rw [en, ef, ma1 (kq.yes z)]; exact e3) F)
      have nk := kq.no z
      have e14 : ∀ a k, ¬ (a = 0 ∧ (k = 29 ∨ k = 30)) → g14 a k = h a k := fun a k q => by rw [h14, dU_ne (by omega), h13, dU_ne (by omega)]
      have M14 : SM Y y st g14 := by
        obtain ⟨a0, a1, a2, a3, a4, a5, a6⟩ := M
        exact ⟨by rw [e14 0 7 (by omega)]; exact a0, by rw [e14 0 8 (by omega)]; exact a1, by rw [e14 0 13 (by omega)]; exact a2, a3, fun j hj => by rw [e14 4 j (by omega), e14 5 j (by omega), e14 6 j (by omega)]; exact a4 j hj, fun a b ha hb => by rw [e14 7 _ (by omega)]; exact a5 a b ha hb, a6.same (fun k => e14 1 k (by omega)) (fun k => e14 2 k (by omega)) (e14 0 4 (by omega))⟩
      have K14 := M14.knm (ea := (i : Int)) (eb := (j : Int)) (gn := -1) (by rw [h14, dU_ne (by omega), h13, dU_eq]; exact h4) (by rw [h14, dU_eq]; exact hj') (by rw [e14 0 31 (by omega)]; exact n1.2.2)
      obtain ⟨x1, x2⟩ := waysAll_ok K14 M14.2.2.1 hN8 g15 h15
      have e17 : ∀ a k, ¬ (a = 0 ∧ (k = 29 ∨ k = 30)) → g17 a k = g15 a k := fun a k q => by rw [h17, dU_ne (by omega), h16, dU_ne (by omega)]
      have x17 : WQ (knM Y st (i : Int) (j : Int) (-1)) (yN Y) g17 := ⟨by rw [e17 0 13 (by omega)]; exact x1.1, x1.2.1, fun a b ha hb => by rw [e17 8 _ (by omega)]; exact x1.2.2 a b ha hb⟩
      have nk' : knS Y st i j = false := by
        cases e : knS Y st i j with
        | false => rfl
        | true => exact absurd e nk
      have sy : ∀ a b, a < yN Y → b < yN Y → knM Y st (i : Int) (j : Int) (-1) a b = true → knM Y st (i : Int) (j : Int) (-1) b a = true := fun a b ha hb q => by
        rw [← tn_knM W hi hjN (by omega) nk' ha hb] at q
        rw [← tn_knM W hi hjN (by omega) nk' hb ha]
        unfold tnK at q ⊢
        have eq : knS Y st b a = knS Y st a b := by
          cases e1 : knS Y st a b with
          | true => exact kn_sym W a b ha hb e1
          | false =>
            cases e3 : knS Y st b a with
            | false => rfl
            | true => rw [kn_sym W b a hb ha e3] at e1; cases e1
        rw [eq, show decide ((b = i ∧ a = j) ∨ (b = j ∧ a = i)) = decide ((a = i ∧ b = j) ∨ (a = j ∧ b = i)) by rw [decide_eq_decide]; omega]
        exact q
      have lg := mlong_ok x17 sy r18 h18
      rw [t9] at lg
      have er := lgE_of lg
      have F17 : bFr g17 h0 := bFr.trans (fun a k y1 y2 y3 y4 => by
        by_cases e30 : a = 0 ∧ k = 30
        · obtain ⟨rfl, rfl⟩ := e30
          rw [h17, dU_eq]
          exact (Int32.toInt_inj.mp (n1.2.1.trans tm1.symm)).symm
        · by_cases e29 : a = 0 ∧ k = 29
          · obtain ⟨rfl, rfl⟩ := e29
            rw [h17, dU_ne (by omega), h16, dU_eq]
            exact (Int32.toInt_inj.mp (n1.1.trans tm1.symm)).symm
          · rw [e17 a k (by omega), x2 a k (by omega), e14 a k (by omega)]) F
      have e5 := i32_of hj'
      have e4 := i32_of h4
      refine al_ite (fun z2 => mmatch_44 W h4 hi M0 n0 Kk n _ _ (v5 + 1) g17 (by omega) (by omega) ?_ ?_ F17) (fun z2 => mmatch_44 W h4 hi M0 n0 Kk n _ _ (v5 + 1) g17 (by omega) (by omega) ?_ ?_ F17)
      · rw [en, ef, ma2 nk (by rw [← e3, ← er]; exact z2), e4, e5]
      · rw [en, ef, ma2 nk (by rw [← e3, ← er]; exact z2)]; exact er
      · rw [en, ef, ma3 nk (by rw [← e3, ← er]; exact z2)]; exact e2
      · rw [en, ef, ma3 nk (by rw [← e3, ← er]; exact z2)]; exact e3
    · rw [show j = yN Y by omega] at e2 e3
      rw [e2, e3]
      exact Kk h F
theorem mmatch_29 {Y : zY} {y : Int32} {st : zT2} (W : Wf (yN Y) st) {h0 : dH} (M0 : SM Y y st h0) (n0 : mNo h0) {s0 : Int32 × Int32} {k : Int32 → Int32 → dH → Option (Int32 × dH)} {P : Int32 × dH → Prop} (Kk : ∀ g, bFr g h0 → Al (k (fOut (maS Y st) (yN Y) (yN Y) s0).1 (fOut (maS Y st) (yN Y) (yN Y) s0).2 g) P) : ∀ (n : Nat) (v2 v3 v4 : Int32) (h : dH), 0 ≤ v4.toInt → v4.toInt ≤ yN Y → v2 = (fOut (maS Y st) (yN Y) v4.toInt.toNat s0).1 → v3 = (fOut (maS Y st) (yN Y) v4.toInt.toNat s0).2 → bFr h h0 → Al (l_X7_match_29 k n v2 v3 v4 h) P
  | 0, _, _, _, _, _, _, _, _, _ => al_none
  | n + 1, v2, v3, v4, h, p0, p1, e2, e3, F => by
    have hN8 := M0.2.2.2.1
    rw [l_X7_match_29, (M0.b F).2.2.1]
    have t := inc1 (v := v4) (by omega)
    have en : (v4 + 1).toInt.toNat = v4.toInt.toNat + 1 := by omega
    refine al_ite (fun c => ?_) (fun c => ?_)
    · refine mmatch_44 W (i := v4.toInt.toNat) (by omega) (by omega) M0 n0 (s0 := fOut (maS Y st) (yN Y) v4.toInt.toNat s0) (fun g Fg => ?_) fuel0 v2 v3 (v4 + 1) h (by omega) (by omega) (by rw [fIn_le _ (by omega)]; exact e2) (by rw [fIn_le _ (by omega)]; exact e3) F
      exact mmatch_29 W M0 n0 Kk n _ _ (v4 + 1) g (by omega) (by omega) (by rw [en]; rfl) (by rw [en]; rfl) Fg
    · rw [show v4.toInt.toNat = yN Y by omega] at e2 e3
      rw [e2, e3]
      exact Kk h F
theorem op_match {hC hM : dH} (q : RR hC hM) (v1 : Int32) : Op2 (f_X6_match v1 hC) (f_X7_match v1 hM) := by
  obtain ⟨C, M, W, R, T⟩ := q.st
  have l0 := L0
  have l1 := L1
  unfold Op2 f_X6_match
  refine al_oP (fun r3 h3 => ?_)
  have q3 := either6 r3 h3
  refine al_ite (fun d => al_some (al_in (fun r qr => al_ite (fun _ => al_some ⟨rfl, q⟩) (fun z => by omega)))) (fun d => al_oV' (fun g4 h4 => al_oP (fun r5 h5 => ?_)))
  obtain ⟨x1, x2⟩ := see_ok isZ43 C.kn C.2.2.1 C.2.2.2.1 g4 h4
  have C4 : SC 43 (yOf 43 hC) (hC 43 0) (stOf 43 hC) g4 := C.keep isZ43 (fun b k hb => x2 b k (by omega) (by omega))
  have lg := longest_ok x1 r5 h5
  rw [t9] at lg
  have er := lgE_of lg
  refine match_36 W C4 (s0 := (-1, lgE (knS (yOf 43 hC) (stOf 43 hC)) (yN (yOf 43 hC)))) (fun g Fg => ?_) fuel0 (-1) r5 0 g4 (by decide) (by rw [ti0]; omega) (by rw [ti0]; rfl) (by rw [ti0]; exact er) (fun _ _ _ _ => rfl) x1
  have mm : ∀ (x : Int32), x = (if v1.toInt = 0 then (fOut (maS (yOf 43 hC) (stOf 43 hC)) (yN (yOf 43 hC)) (yN (yOf 43 hC)) (-1, lgE (knS (yOf 43 hC) (stOf 43 hC)) (yN (yOf 43 hC)))).1 else (fOut (maS (yOf 43 hC) (stOf 43 hC)) (yN (yOf 43 hC)) (yN (yOf 43 hC)) (-1, lgE (knS (yOf 43 hC) (stOf 43 hC)) (yN (yOf 43 hC)))).2) → Al (f_X7_match v1 hM) (fun o2 => x = o2.1 ∧ RR g o2.2) := by
    intro x hx
    refine al_in (fun r qr => al_ite (fun z => by omega) (fun z => al_oV' (fun m4 p4 => al_oP (fun r5' h5' => ?_))))
    obtain ⟨y1, y2⟩ := waysAll_ok (M.kn q.2.2.2.2.2) M.2.2.1 M.2.2.2.1 m4 p4
    have lg2 := mlong_ok y1 (kn_sym W) r5' h5'
    rw [t9] at lg2
    have er2 := lgE_of lg2
    refine mmatch_29 W (M.b y2.b) (mNo.b y2.b q.2.2.2.2.2) (s0 := (-1, lgE (knS (yOf 43 hC) (stOf 43 hC)) (yN (yOf 43 hC)))) (fun gm F => ?_) fuel0 (-1) r5' 0 m4 (by decide) (by rw [ti0]; omega) (by rw [ti0]; rfl) (by rw [ti0]; exact er2) (bFr.refl _)
    have kk := q.keep (Fg.v.trans x2.v) (F.trans y2.b)
    refine al_ite (fun z => al_some ⟨?_, kk⟩) (fun z => al_some ⟨?_, kk⟩)
    · rw [hx, if_pos z]
    · rw [hx, if_neg z]
  exact al_ite (fun z => al_some (mm _ (if_pos z).symm)) (fun z => al_some (mm _ (if_neg z).symm))
end
