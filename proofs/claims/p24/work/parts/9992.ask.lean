/-! questions, feasts, years: on both sides -/
noncomputable section
theorem kn_sym {Y : zY} {st : zT2} (W : Wf (yN Y) st) : ∀ i j, i < yN Y → j < yN Y → knS Y st i j = true → knS Y st j i = true := by
  intro i j hi hj h
  unfold knS at h ⊢
  by_cases c : i = j
  · rw [if_pos c] at h; cases h
  · rw [if_neg c] at h
    rw [if_neg (fun z => c z.symm), ← (W.1 i j hi hj).2.2]
    exact h
theorem RR.now {hC hM gC gM : dH} (q : RR hC hM) {y : Int32} {st : zT2} (C : SC 43 (yOf 43 hC) y st gC) (M : SM (yOf 43 hC) y st gM) (W : Wf (yN (yOf 43 hC)) st) (hy : 0 ≤ y.toInt ∧ y.toInt ≤ 999) (fC : fFr 43 (yN (yOf 43 hC)) gC hC) (fM : wFr gM hM) : RR gC gM := by
  have eN : yN (yOf 43 hC) = (hC 43 2).toInt.toNat := rfl
  obtain ⟨q1, q2, q3, q4, q5, q6⟩ := q
  obtain ⟨w1, w2, w3, w4, w5, w6, w7, w8, w9, w10, w11⟩ := q1
  have hN8 : yN (yOf 43 hC) ≤ 8 := by rw [eN]; omega
  have e : ∀ a k, ¬ a = 56 → ¬ (13 ≤ a ∧ a ≤ 33 ∧ a % 4 = 1) → ¬ (48 ≤ a ∧ a < 56) → ¬ (a = 43 ∧ k = 0) → gC a k = hC a k := fun a k x1 x2 x3 x4 => fC a k x1 x2 (by omega) x4
  have m : ∀ a k, ¬ (a = 0 ∧ 14 ≤ k ∧ k ≤ 28) → ¬ (a = 0 ∧ k = 7) → ¬ a = 7 → ¬ a = 8 → gM a k = hM a k := fM
  have c2 : gC 43 2 = hC 43 2 := e 43 2 (by omega) (by omega) (by omega) (by omega)
  have n2 : (gC 43 2).toInt.toNat = yN (yOf 43 hC) := by rw [c2]; rfl
  have C5 := C.2.2.2.2.2.1
  have M5 := M.2.2.2.2.2.1
  refine ⟨?_, ?_, q3.same (fun a k x => e a k (by omega) (by omega) (by omega) (by omega)) (fun a k x => m a k (by omega) (by omega) (by omega) (by omega)), q4.same (fun a k x => e a k (by omega) (by omega) (by omega) (by omega)) (fun a k x => m a k (by omega) (by omega) (by omega) (by omega)), fun s hs => (q5 s hs).same hs (fun a k x => e a k (by omega) (by omega) (by omega) (by omega)) (fun a k x => m a k (by omega) (by omega) (by omega) (by omega)), ?_⟩
  · unfold nowR strR
    rw [n2, C.1, M.1, e 43 1 (by omega) (by omega) (by omega) (by omega), c2, e 43 3 (by omega) (by omega) (by omega) (by omega), m 0 8 (by omega) (by omega) (by omega) (by omega), m 0 13 (by omega) (by omega) (by omega) (by omega), m 0 4 (by omega) (by omega) (by omega) (by omega), e 0 3 (by omega) (by omega) (by omega) (by omega)]
    refine ⟨rfl, w2, w3, w4, fun i hi => ?_, fun i j hi hj => ?_, w7, hy, fun i hi => ?_, ?_, fun i j hi hj hz => ?_⟩
    · rw [e 44 i (by omega) (by omega) (by omega) (by omega), e 45 i (by omega) (by omega) (by omega) (by omega), e 46 i (by omega) (by omega) (by omega) (by omega), m 4 i (by omega) (by omega) (by omega) (by omega), m 5 i (by omega) (by omega) (by omega) (by omega), m 6 i (by omega) (by omega) (by omega) (by omega)]
      exact w5 i hi
    · rw [C5 i j hi hj]
      exact (M5 i j hi hj).symm
    · rw [e 44 i (by omega) (by omega) (by omega) (by omega), e 45 i (by omega) (by omega) (by omega) (by omega), e 46 i (by omega) (by omega) (by omega) (by omega)]
      exact w9 i hi
    · refine ⟨fun i j hi hj => ?_, fun i hi => ?_⟩
      · unfold stOf
        rw [C5 i j hi hj, C5 j i hj hi]
        exact W.1 i j hi hj
      · unfold stOf
        rw [C5 i i hi hi]
        exact W.2 i hi
    · rw [fC (43 + 5 + i) j (by omega) (by omega) (by omega) (by omega)]
      exact w11 i j hi hj hz
  · exact q2.same (fun a k x => e a k (by omega) (by omega) (by omega) (by omega)) (fun a k x => m a k (by omega) (by omega) (by omega) (by omega)) (by rw [c2]; exact Int.le_refl _) (by rw [e 0 3 (by omega) (by omega) (by omega) (by omega)]; exact Int.le_refl _)
  · unfold mNo at q6 ⊢
    rw [m 0 29 (by omega) (by omega) (by omega) (by omega), m 0 30 (by omega) (by omega) (by omega) (by omega), m 0 31 (by omega) (by omega) (by omega) (by omega)]
    exact q6
theorem RR.yr {hC hM : dH} (q : RR hC hM) : 0 ≤ (hC 43 0).toInt ∧ (hC 43 0).toInt ≤ 999 := q.1.2.2.2.2.2.2.2.1
theorem op_asks {hC hM : dH} (q : RR hC hM) (v1 v2 v3 : Int32) : Op2 (f_X6_asks v1 v2 v3 hC) (f_X7_asks v1 v2 v3 hM) := by
  obtain ⟨C, M, W, R, T⟩ := q.st
  have l0 := L0
  have l1 := L1
  unfold Op2 f_X6_asks
  refine al_oP (fun r1 h1 => ?_)
  have q1 := two6 C.2.2.1 r1 h1
  unfold twQ at q1
  have keep : ∀ {gC gM : dH}, nFr 43 gC hC → mFr gM hM → RR gC gM := fun a b => q.keep (a.v (Or.inl rfl)) b.b
  have m1 : ∀ {P : Int32 × dH → Prop}, (∀ r5 : Int32, twQ (yN (yOf 43 hC)) v1 v2 r5 → Al (if r5.toInt = 0 then (some ((-2 : Int32), hM)) else (oP (f_X7_in (v3.toInt64) 0 1) (fun r4 => if r4.toInt = 0 then (some ((-2), hM)) else (if v3.toInt = 0 then (oI (f_X7_meetsOf v1 v2 hM) (fun r9 g10 => some (r9, g10))) else (oI (f_X7_fadesOf v1 v2 hM) (fun r11 g12 => some (r11, g12))))))) P) → Al (f_X7_asks v1 v2 v3 hM) P := fun k => al_oP (fun r5 h5 => k r5 (two7 M.2.2.1 M.2.2.2.1 r5 h5))
  unfold twQ at m1
  refine al_ite (fun c => al_some (m1 (fun r5 q5 => al_ite (fun _ => al_some ⟨rfl, q⟩) (fun z => by omega)))) (fun c => al_oP (fun r4 h4 => ?_))
  have q4 := either6 r4 h4
  refine al_ite (fun d => al_some (m1 (fun r5 q5 => al_ite (fun z => by omega) (fun z => al_in (fun r6 q6 => al_ite (fun _ => al_some ⟨rfl, q⟩) (fun z6 => by omega)))))) (fun d => ?_)
  have hi : v1.toInt.toNat < yN (yOf 43 hC) := by omega
  have hj : v2.toInt.toNat < yN (yOf 43 hC) := by omega
  have h1' : v1.toInt = (v1.toInt.toNat : Int) := by omega
  have h2' : v2.toInt = (v2.toInt.toNat : Int) := by omega
  refine al_ite (fun z => al_oI (fun r9 g hr => al_some (m1 (fun r5 q5 => al_ite (fun z => by omega) (fun z => al_in (fun r6 q6 => al_ite (fun z6 => by omega) (fun z6 => al_ite (fun _ => al_oI (fun r8 g8 hr8 => al_some ?_)) (fun z7 => by omega)))))))) (fun z => al_oI (fun r9 g hr => al_some (m1 (fun r5 q5 => al_ite (fun z => by omega) (fun z => al_in (fun r6 q6 => al_ite (fun z6 => by omega) (fun z6 => al_ite (fun z7 => by omega) (fun _ => al_oI (fun r8 g8 hr8 => al_some ?_)))))))))
  · obtain ⟨x1, x2⟩ := meets_ok (Or.inl rfl) C h1' h2' hi hj (r9, g) hr
    obtain ⟨y1, y2⟩ := meetsOf_ok M h1' h2' hi hj (r8, g8) hr8
    exact ⟨x1.trans y1.symm, keep x2 y2⟩
  · obtain ⟨x1, x2⟩ := forgets_ok (Or.inl rfl) C h1' h2' hi hj (r9, g) hr
    obtain ⟨y1, y2⟩ := fadesOf_ok M h1' h2' hi hj (r8, g8) hr8
    exact ⟨x1.trans y1.symm, keep x2 y2⟩
theorem mNo.g {g h : dH} (q : wFr g h) (n : mNo h) : mNo g := by
  unfold mNo at n ⊢
  rw [q 0 29 (by omega) (by omega) (by omega) (by omega), q 0 30 (by omega) (by omega) (by omega) (by omega), q 0 31 (by omega) (by omega) (by omega) (by omega)]
  exact n
theorem op_feast {hC hM : dH} (q : RR hC hM) : Op2 (f_X6_feast hC) (f_X7_feast hM) := by
  obtain ⟨C, M, W, R, T⟩ := q.st
  unfold Op2 f_X6_feast
  refine al_oV' (fun g h1 => al_oP (fun r hr => al_some ?_))
  unfold f_X7_feast
  refine al_oV' (fun gm h2 => al_oP (fun rm hrm => al_some ?_))
  obtain ⟨x1, x2, x3⟩ := holdFeast_ok (Or.inl rfl) R C W g h1
  obtain ⟨y1, y2⟩ := feasts_ok M gm h2
  have e1 := friends_ok x1.kn x1.2.2.1 x1.2.2.2.1 r hr
  have e2 := mfriends_ok (y1.kn (q.2.2.2.2.2.g y2.w)) y1.2.2.1 y1.2.2.2.1 rm hrm
  exact ⟨e1.trans e2.symm, q.now x1 y1 x2 q.yr x3 y2.w⟩
theorem op_year {hC hM : dH} (q : RR hC hM) : Op2 (f_X6_year hC) (f_X7_year hM) := by
  obtain ⟨C, M, W, R, T⟩ := q.st
  have ey : hM 0 7 = hC 43 0 := M.1
  have yr := q.yr
  unfold Op2 f_X6_year
  refine al_ite (fun c => al_oV' (fun g h1 => al_oP (fun r hr => al_some ?_))) (fun c => al_some ?_)
  · unfold f_X7_year
    rw [ey]
    refine al_ite (fun d => by omega) (fun d => al_oV' (fun gm h2 => al_oP (fun rm hrm => al_some ?_)))
    obtain ⟨x1, x2, x3⟩ := endYear_ok (Or.inl rfl) R C W g h1
    obtain ⟨y1, y2⟩ := fades_ok M gm h2
    have e1 := friends_ok x1.kn x1.2.2.1 x1.2.2.2.1 r hr
    have e2 := mfriends_ok (y1.kn (q.2.2.2.2.2.g y2.w)) y1.2.2.1 y1.2.2.2.1 rm hrm
    exact ⟨e1.trans e2.symm, q.now x1 y1 x2 (by rw [inc1 (by omega)]; omega) x3 y2.w⟩
  · unfold f_X7_year
    rw [ey]
    exact al_ite (fun d => al_some ⟨rfl, q⟩) (fun d => by omega)
/-! what a street comes to -/
def figQ (Y : zY) (st : zT2) (what : Int) (r : Int32) : Prop := (what = 0 → r = frS (knS Y st) (yN Y)) ∧ (what = 1 → r = cnt32 (isFm (knS Y st) (yN Y) (-1)) (yN Y)) ∧ (what = 2 → r.toInt = mxN (cmS (knS Y st) (yN Y)) (yN Y)) ∧ (what = 3 → r = allS st (yN Y)) ∧ (what = 4 → isMx (vlS (knS Y st) (yN Y) 0) (yN Y) r.toInt)
theorem figQ.uniq {Y : zY} {st : zT2} {what : Int} {r s : Int32} (hw : 0 ≤ what ∧ what ≤ 4) (h1 : figQ Y st what r) (h2 : figQ Y st what s) : r = s := by
  have : what = 0 ∨ what = 1 ∨ what = 2 ∨ what = 3 ∨ what = 4 := by omega
  obtain ⟨a0, a1, a2, a3, a4⟩ := h1
  obtain ⟨b0, b1, b2, b3, b4⟩ := h2
  rcases this with e | e | e | e | e
  · rw [a0 e, b0 e]
  · rw [a1 e, b1 e]
  · exact Int32.toInt_inj.mp ((a2 e).trans (b2 e).symm)
  · rw [a3 e, b3 e]
  · exact Int32.toInt_inj.mp ((a4 e).uniq (b4 e))
theorem figure_ok {a : Nat} (ha : zS a) {Y : zY} {y : Int32} {st : zT2} {h : dH} (C : SC a Y y st h) (W : Wf (yN Y) st) {v : Int32} (hv : 0 ≤ v.toInt ∧ v.toInt ≤ 5) : Al (f_X6_figure a v h) (fun o => (v.toInt ≤ 4 → figQ Y st v.toInt o.1) ∧ (v.toInt = 5 → o.1 = (qtS Y y 4).1) ∧ cV o.2 h) := by
  have z := zS_or ha
  unfold f_X6_figure
  refine al_oV' (fun g1 h1 => ?_)
  obtain ⟨x1, x2⟩ := see_ok ha C.kn C.2.2.1 C.2.2.2.1 g1 h1
  have C1 : SC a Y y st g1 := C.keep ha (fun b k hb => x2 b k (by omega) (by omega))
  have vv := x2.v
  refine al_ite (fun c => al_oP (fun r hr => al_some ⟨fun _ => ⟨fun _ => friends_ok C1.kn C1.2.2.1 C1.2.2.2.1 r hr, fun z => by omega, fun z => by omega, fun z => by omega, fun z => by omega⟩, fun z => by omega, vv⟩)) (fun c0 => al_ite (fun c => al_oP (fun r7 h7 => al_oP (fun r hr => al_some ⟨fun _ => ⟨fun z => by omega, fun _ => ?_, fun z => by omega, fun z => by omega, fun z => by omega⟩, fun z => by omega, vv⟩))) (fun c1 => al_ite (fun c => al_oP (fun r hr => al_some ⟨fun _ => ⟨fun z => by omega, fun z => by omega, fun _ => largest_ok x1 r hr, fun z => by omega, fun z => by omega⟩, fun z => by omega, vv⟩)) (fun c2 => al_ite (fun c => al_oP (fun r hr => al_some ⟨fun _ => ⟨fun z => by omega, fun z => by omega, fun z => by omega, fun _ => allS_ok C1 r hr, fun z => by omega⟩, fun z => by omega, vv⟩)) (fun c3 => al_ite (fun c => al_oP (fun r hr => al_some ⟨fun _ => ⟨fun z => by omega, fun z => by omega, fun z => by omega, fun z => by omega, fun _ => longest_ok x1 r hr⟩, fun z => by omega, vv⟩)) (fun c4 => al_oI (fun r g hr => al_some ?_))))))
  · have e := companies_ok x1 (kn_sym W) (mem := memN (yN Y)) (everyone_ok x1 r7 h7) r hr
    rw [e]
    refine cnt_F (kn_sym W) (gn := -1) (fun i hi => ?_) (fun i j hi hj => kMem_N hi hj)
    unfold memN
    rw [decide_eq_true_eq]
    omega
  · obtain ⟨y1, y2⟩ := quiet_ok ha W C1 (r, g) hr
    exact ⟨fun z => by omega, fun _ => y1, (y2.v ha).trans vv⟩
theorem tellsOf_ok {Y : zY} {y : Int32} {st : zT2} {h : dH} (M : SM Y y st h) (n : mNo h) (W : Wf (yN Y) st) {v : Int32} (hv : 0 ≤ v.toInt ∧ v.toInt ≤ 4) : Al (f_X7_tellsOf v h) (fun o => figQ Y st v.toInt o.1 ∧ vFr o.2 h) := by
  unfold f_X7_tellsOf
  refine al_oV' (fun g1 h1 => ?_)
  obtain ⟨x1, x2⟩ := waysAll_ok (M.kn n) M.2.2.1 M.2.2.2.1 g1 h1
  have M1 : SM Y y st g1 := M.b (fun a k _ _ q _ => x2 a k (by omega))
  have n1 : mNo g1 := mNo.b (fun a k _ _ q _ => x2 a k (by omega)) n
  refine al_ite (fun c => al_oP (fun r hr => al_some ⟨⟨fun _ => mfriends_ok (M1.kn n1) M1.2.2.1 M1.2.2.2.1 r hr, fun z => by omega, fun z => by omega, fun z => by omega, fun z => by omega⟩, x2⟩)) (fun c0 => al_ite (fun c => al_oP (fun r hr => al_some ⟨⟨fun z => by omega, fun _ => mcomp_ok x1 n1.2.2 r hr, fun z => by omega, fun z => by omega, fun z => by omega⟩, x2⟩)) (fun c1 => al_ite (fun c => al_oP (fun r hr => al_some ⟨⟨fun z => by omega, fun z => by omega, fun _ => mlarge_ok x1 r hr, fun z => by omega, fun z => by omega⟩, x2⟩)) (fun c2 => al_ite (fun c => al_oP (fun r hr => al_some ⟨⟨fun z => by omega, fun z => by omega, fun z => by omega, fun _ => mallS_ok M1 r hr, fun z => by omega⟩, x2⟩)) (fun c3 => al_oP (fun r hr => al_some ⟨⟨fun z => by omega, fun z => by omega, fun z => by omega, fun z => by omega, fun _ => mlong_ok x1 (kn_sym W) r hr⟩, x2⟩)))))
theorem vFr.b {g h : dH} (q : vFr g h) : bFr g h := fun a k _ _ x _ => q a k (by omega)
theorem op_street {hC hM : dH} (q : RR hC hM) (v1 : Int32) : Op2 (f_X6_street v1 hC) (f_X7_street v1 hM) := by
  obtain ⟨C, M, W, R, T⟩ := q.st
  have l0 := L0
  have l5 := L5
  unfold Op2 f_X6_street
  refine al_ite (fun c => al_some (al_in (fun r qr => al_ite (fun _ => al_some ⟨rfl, q⟩) (fun z => by omega)))) (fun c => al_ite (fun d => al_some (al_in (fun r qr => al_ite (fun _ => al_some ⟨rfl, q⟩) (fun z => by omega)))) (fun d => al_oI (fun r g hr => al_some (al_in (fun r2 q2 => al_ite (fun z => by omega) (fun z => ?_))))))
  obtain ⟨x1, x2, x3⟩ := figure_ok (Or.inl rfl) C W (by omega) (r, g) hr
  refine al_ite (fun e => al_oI (fun rm gm hm => al_some ?_)) (fun e => al_oI (fun rm gm hm => al_some ?_))
  · obtain ⟨y1, y2⟩ := quietest_ok M (rm, gm) hm
    exact ⟨(x2 e).trans y1.symm, q.keep x3 y2.b⟩
  · obtain ⟨y1, y2⟩ := tellsOf_ok M q.2.2.2.2.2 W (by omega) (rm, gm) hm
    exact ⟨figQ.uniq (by omega) (x1 (by omega)) y1, q.keep x3 y2.b⟩
theorem op_way {hC hM : dH} (q : RR hC hM) (v1 v2 : Int32) : Op2 (f_X6_way v1 v2 hC) (f_X7_way v1 v2 hM) := by
  obtain ⟨C, M, W, R, T⟩ := q.st
  have M2 := M.2.2.1
  have M3 := M.2.2.2.1
  unfold Op2 f_X6_way
  refine al_house6 C.2.2.1 (fun r1 q1 => al_ite (fun c => al_some (al_house7 M2 M3 (fun r5 q5 => al_ite (fun _ => al_some ⟨rfl, q⟩) (fun z => by omega)))) (fun c => al_house6 C.2.2.1 (fun r4 q4 => al_ite (fun d => al_some (al_house7 M2 M3 (fun r5 q5 => al_ite (fun z => by omega) (fun z => al_house7 M2 M3 (fun r6 q6 => al_ite (fun _ => al_some ⟨rfl, q⟩) (fun z => by omega)))))) (fun d => al_oV' (fun g hg => al_oP (fun r hr => al_some (al_house7 M2 M3 (fun r5 q5 => al_ite (fun z => by omega) (fun z => al_house7 M2 M3 (fun r6 q6 => al_ite (fun z => by omega) (fun z => al_oV' (fun gm hgm => ?_))))))))))))
  obtain ⟨x1, x2⟩ := see_ok (Or.inl rfl) C.kn C.2.2.1 C.2.2.2.1 g hg
  obtain ⟨y1, y2⟩ := waysAll_ok (M.kn q.2.2.2.2.2) M2 M3 gm hgm
  have hi : v1.toInt.toNat < yN (yOf 43 hC) := by omega
  have hj : v2.toInt.toNat < yN (yOf 43 hC) := by omega
  obtain ⟨-, ix⟩ := ix8 (v1 := v1) (v2 := v2) (i := v1.toInt.toNat) (j := v2.toInt.toNat) (by omega) (by omega) (by omega) (by omega)
  rw [ix]
  refine al_ite (fun _ => al_some ⟨?_, q.keep x2.v y2.b⟩) (fun _ => al_none)
  have e := distance_ok x1 hi hj (v1 := v1) (v2 := v2) (by omega) (by omega) r hr
  exact Int32.toInt_inj.mp (e.trans (y1.2.2 _ _ hi hj).symm)
end
