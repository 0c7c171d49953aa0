section
/-! questions, feasts, years: on both sides -/
noncomputable section
theorem kn_sym {Y : zY} {st : zT2} (W : Wf (yN Y) st) : ∀ i j, i < yN Y → j < yN Y → knS Y st i j = true → knS Y st j i = true := by
  intro i j hi hj h
  unfold knS at h ⊢
  by_cases c : i = j
  · rw [if_pos c] at h; cases h
  · rw [if_neg c] at h
    rw [if_neg (fun z => c z.symm), ← (W.1 i j hi hj).2.2]
    exact h
theorem RR.now {hC hM gC gM : dH} (q : RR hC hM) {y : Int32} {st : zT2} (C : SC 43 (yOf 43 hC) y st gC) (M : SM (yOf 43 hC) y st gM) (W : Wf (yN (yOf 43 hC)) st) (hy : 0 ≤ y.toInt ∧ y.toInt ≤ 999) (fC : fFr 43 (yN (yOf 43 hC)) gC hC) (fM : wFr gM hM) : RR gC gM := by
  have eN : yN (yOf 43 hC) = (hC 43 2).toInt.toNat := rfl
  obtain ⟨q1, q2, q3, q4, q5, q6⟩ := q
  obtain ⟨w1, w2, w3, w4, w5, w6, w7, w8, w9, w10, w11⟩ := q1
  have hN8 : yN (yOf 43 hC) ≤ 8 := by rw [eN]; omega
  have e : ∀ a k, ¬ a = 56 → ¬ (13 ≤ a ∧ a ≤ 33 ∧ a % 4 = 1) → ¬ (48 ≤ a ∧ a < 56) → ¬ (a = 43 ∧ k = 0) → gC a k = hC a k := fun a k x1 x2 x3 x4 => fC a k x1 x2 (by omega) x4
  have m : ∀ a k, ¬ (a = 0 ∧ 14 ≤ k ∧ k ≤ 28) → ¬ (a = 0 ∧ k = 7) → ¬ a = 7 → ¬ a = 8 → gM a k = hM a k := fM
  have c2 : gC 43 2 = hC 43 2 := e 43 2 (by omega) (by omega) (by omega) (by omega)
  have n2 : (gC 43 2).toInt.toNat = yN (yOf 43 hC) := by rw [c2]; rfl
  have C5 := C.2.2.2.2.2.1
  have M5 := M.2.2.2.2.2.1
  refine ⟨?_, ?_, q3.same (fun a k x => e a k (by omega) (by omega) (by omega) (by omega)) (fun a k x => m a k (by omega) (by omega) (by omega) (by omega)), q4.same (fun a k x => e a k (by omega) (by omega) (by omega) (by omega)) (fun a k x => m a k (by omega) (by omega) (by omega) (by omega)), fun s hs => (q5 s hs).same hs (fun a k x => e a k (by omega) (by omega) (by omega) (by omega)) (fun a k x => m a k (by omega) (by omega) (by omega) (by omega)), ?_⟩
  · unfold nowR strR
    rw [n2, C.1, M.1, e 43 1 (by omega) (by omega) (by omega) (by omega), c2, e 43 3 (by omega) (by omega) (by omega) (by omega), m 0 8 (by omega) (by omega) (by omega) (by omega), m 0 13 (by omega) (by omega) (by omega) (by omega), m 0 4 (by omega) (by omega) (by omega) (by omega), e 0 3 (by omega) (by omega) (by omega) (by omega)]
    refine ⟨rfl, w2, w3, w4, fun i hi => ?_, fun i j hi hj => ?_, w7, hy, fun i hi => ?_, ?_, fun i j hi hj hz => ?_⟩
    · rw [e 44 i (by omega) (by omega) (by omega) (by omega), e 45 i (by omega) (by omega) (by omega) (by omega), e 46 i (by omega) (by omega) (by omega) (by omega), m 4 i (by omega) (by omega) (by omega) (by omega), m 5 i (by omega) (by omega) (by omega) (by omega), m 6 i (by omega) (by omega) (by omega) (by omega)]
      exact w5 i hi
    · rw [C5 i j hi hj]
      exact (M5 i j hi hj).symm
    · rw [e 44 i (by omega) (by omega) (by omega) (by omega), e 45 i (by omega) (by omega) (by omega) (by omega), e 46 i (by omega) (by omega) (by omega) (by omega)]
      exact w9 i hi
    · refine ⟨fun i j hi hj => ?_, fun i hi => ?_⟩
      · unfold stOf
        rw [C5 i j hi hj, C5 j i hj hi]
        exact W.1 i j hi hj
      · unfold stOf
        rw [C5 i i hi hi]
        exact W.2 i hi
    · rw [fC (43 + 5 + i) j (by omega) (by omega) (by omega) (by omega)]
      exact w11 i j hi hj hz
  · exact q2.same (fun a k x => e a k (by omega) (by omega) (by omega) (by omega)) (fun a k x => m a k (by omega) (by omega) (by omega) (by omega)) (by rw [c2]; exact Int.le_refl _) (by rw [e 0 3 (by omega) (by omega) (by omega) (by omega)]; exact Int.le_refl _)
  · unfold mNo at q6 ⊢
    rw [m 0 29 (by omega) (by omega) (by omega) (by omega), m 0 30 (by omega) (by omega) (by omega) (by omega), m 0 31 (by omega) (by omega) (by omega) (by omega)]
    exact q6
theorem RR.yr {hC hM : dH} (q : RR hC hM) : 0 ≤ (hC 43 0).toInt ∧ (hC 43 0).toInt ≤ 999 := q.1.2.2.2.2.2.2.2.1
theorem op_asks {hC hM : dH} (q : RR hC hM) (v1 v2 v3 : Int32) : Op2 (f_X6_asks v1 v2 v3 hC) (f_X7_asks v1 v2 v3 hM) := by
  obtain ⟨C, M, W, R, T⟩ := q.st
  have l0 := L0
  have l1 := L1
  unfold Op2 f_X6_asks
  refine al_oP (fun r1 h1 => ?_)
  have q1 := two6 C.2.2.1 r1 h1
  unfold twQ at q1
  have keep : ∀ {gC gM : dH}, nFr 43 gC hC → mFr gM hM → RR gC gM := fun a b => q.keep (a.v (Or.inl rfl)) b.b
  have m1 : ∀ {P : Int32 × dH → Prop}, (∀ r5 : Int32, twQ (yN (yOf 43 hC)) v1 v2 r5 → Al (if r5.toInt = 0 then (some ((-2 : Int32), hM)) else (oP (f_X7_in (v3.toInt64) 0 1) (fun r4 => if r4.toInt = 0 then (some ((-2), hM)) else (if v3.toInt = 0 then (oI (f_X7_meetsOf v1 v2 hM) (fun r9 g10 => some (r9, g10))) else (oI (f_X7_fadesOf v1 v2 hM) (fun r11 g12 => some (r11, g12))))))) P) → Al (f_X7_asks v1 v2 v3 hM) P := fun k => al_oP (fun r5 h5 => k r5 (two7 M.2.2.1 M.2.2.2.1 r5 h5))
  unfold twQ at m1
  refine al_ite (fun c => al_some (m1 (fun r5 q5 => al_ite (fun _ => al_some ⟨rfl, q⟩) (fun z => by omega)))) (fun c => al_oP (fun r4 h4 => ?_))
  have q4 := either6 r4 h4
  refine al_ite (fun d => al_some (m1 (fun r5 q5 => al_ite (fun z => by omega) (fun z => al_in (fun r6 q6 => al_ite (fun _ => al_some ⟨rfl, q⟩) (fun z6 => by omega)))))) (fun d => ?_)
  have hi : v1.toInt.toNat < yN (yOf 43 hC) := by omega
  have hj : v2.toInt.toNat < yN (yOf 43 hC) := by omega
  have h1' : v1.toInt = (v1.toInt.toNat : Int) := by omega
  have h2' : v2.toInt = (v2.toInt.toNat : Int) := by omega
  refine al_ite (fun z => al_oI (fun r9 g hr => al_some (m1 (fun r5 q5 => al_ite (fun z => by omega) (fun z => al_in (fun r6 q6 => al_ite (fun z6 => by omega) (fun z6 => al_ite (fun _ => al_oI (fun r8 g8 hr8 => al_some ?_)) (fun z7 => by omega)))))))) (fun z => al_oI (fun r9 g hr => al_some (m1 (fun r5 q5 => al_ite (fun z => by omega) (fun z => al_in (fun r6 q6 => al_ite (fun z6 => by omega) (fun z6 => al_ite (fun z7 => by omega) (fun _ => al_oI (fun r8 g8 hr8 => al_some ?_)))))))))
  · obtain ⟨x1, x2⟩ := meets_ok (Or.inl rfl) C h1' h2' hi hj (r9, g) hr
    obtain ⟨y1, y2⟩ := meetsOf_ok M h1' h2' hi hj (r8, g8) hr8
    exact ⟨x1.trans y1.symm, keep x2 y2⟩
  · obtain ⟨x1, x2⟩ := forgets_ok (Or.inl rfl) C h1' h2' hi hj (r9, g) hr
    obtain ⟨y1, y2⟩ := fadesOf_ok M h1' h2' hi hj (r8, g8) hr8
    exact ⟨x1.trans y1.symm, keep x2 y2⟩
theorem mNo.g {g h : dH} (q : wFr g h) (n : mNo h) : mNo g := by
  unfold mNo at n ⊢
  rw [q 0 29 (by omega) (by omega) (by omega) (by omega), q 0 30 (by omega) (by omega) (by omega) (by omega), q 0 31 (by omega) (by omega) (by omega) (by omega)]
  exact n
theorem op_feast {hC hM : dH} (q : RR hC hM) : Op2 (f_X6_feast hC) (f_X7_feast hM) := by
  obtain ⟨C, M, W, R, T⟩ := q.st
  unfold Op2 f_X6_feast
  refine al_oV' (fun g h1 => al_oP (fun r hr => al_some ?_))
  unfold f_X7_feast
  refine al_oV' (fun gm h2 => al_oP (fun rm hrm => al_some ?_))
  obtain ⟨x1, x2, x3⟩ := holdFeast_ok (Or.inl rfl) R C W g h1
  obtain ⟨y1, y2⟩ := feasts_ok M gm h2
  have e1 := friends_ok x1.kn x1.2.2.1 x1.2.2.2.1 r hr
  have e2 := mfriends_ok (y1.kn (q.2.2.2.2.2.g y2.w)) y1.2.2.1 y1.2.2.2.1 rm hrm
  exact ⟨e1.trans e2.symm, q.now x1 y1 x2 q.yr x3 y2.w⟩
theorem op_year {hC hM : dH} (q : RR hC hM) : Op2 (f_X6_year hC) (f_X7_year hM) := by
  obtain ⟨C, M, W, R, T⟩ := q.st
  have ey : hM 0 7 = hC 43 0 := M.1
  have yr := q.yr
  unfold Op2 f_X6_year
  refine al_ite (fun c => al_oV' (fun g h1 => al_oP (fun r hr => al_some ?_))) (fun c => al_some ?_)
  · unfold f_X7_year
    rw [ey]
    refine al_ite (fun d => by omega) (fun d => al_oV' (fun gm h2 => al_oP (fun rm hrm => al_some ?_)))
    obtain ⟨x1, x2, x3⟩ := endYear_ok (Or.inl rfl) R C W g h1
    obtain ⟨y1, y2⟩ := fades_ok M gm h2
    have e1 := friends_ok x1.kn x1.2.2.1 x1.2.2.2.1 r hr
    have e2 := mfriends_ok (y1.kn (q.2.2.2.2.2.g y2.w)) y1.2.2.1 y1.2.2.2.1 rm hrm
    exact ⟨e1.trans e2.symm, q.now x1 y1 x2 (by rw [inc1 (by omega)]; omega) x3 y2.w⟩
  · unfold f_X7_year
    rw [ey]
    exact al_ite (fun d => al_some ⟨rfl, q⟩) (fun d => by omega)
/-! what a street comes to -/
def figQ (Y : zY) (st : zT2) (what : Int) (r : Int32) : Prop := (what = 0 → r = frS (knS Y st) (yN Y)) ∧ (what = 1 → r = cnt32 (isFm (knS Y st) (yN Y) (-1)) (yN Y)) ∧ (what = 2 → r.toInt = mxN (cmS (knS Y st) (yN Y)) (yN Y)) ∧ (what = 3 → r = allS st (yN Y)) ∧ (what = 4 → isMx (vlS (knS Y st) (yN Y) 0) (yN Y) r.toInt)
theorem figQ.uniq {Y : zY} {st : zT2} {what : Int} {r s : Int32} (hw : 0 ≤ what ∧ what ≤ 4) (h1 : figQ Y st what r) (h2 : figQ Y st what s) : r = s := by
  have : what = 0 ∨ what = 1 ∨ what = 2 ∨ what = 3 ∨ what = 4 := by omega
  obtain ⟨a0, a1, a2, a3, a4⟩ := h1
  obtain ⟨b0, b1, b2, b3, b4⟩ := h2
  rcases this with e | e | e | e | e
  · rw [a0 e, b0 e]
  · rw [a1 e, b1 e]
  · exact Int32.toInt_inj.mp ((a2 e).trans (b2 e).symm)
  · rw [a3 e, b3 e]
  · exact Int32.toInt_inj.mp ((a4 e).uniq (b4 e))
theorem figure_ok {a : Nat} (ha : zS a) {Y : zY} {y : Int32} {st : zT2} {h : dH} (C : SC a Y y st h) (W : Wf (yN Y) st) {v : Int32} (hv : 0 ≤ v.toInt ∧ v.toInt ≤ 5) : Al (f_X6_figure a v h) (fun o => (v.toInt ≤ 4 → figQ Y st v.toInt o.1) ∧ (v.toInt = 5 → o.1 = (qtS Y y 4).1) ∧ cV o.2 h) := by
  have z := zS_or ha
  unfold f_X6_figure
  refine al_oV' (fun g1 h1 => ?_)
  obtain ⟨x1, x2⟩ := see_ok ha C.kn C.2.2.1 C.2.2.2.1 g1 h1
  have C1 : SC a Y y st g1 := C.keep ha (fun b k hb => x2 b k (by omega) (by omega))
  have vv := x2.v
  refine al_ite (fun c => al_oP (fun r hr => al_some ⟨fun _ => ⟨fun _ => friends_ok C1.kn C1.2.2.1 C1.2.2.2.1 r hr, fun z => by omega, fun z => by omega, fun z => by omega, fun z => by omega⟩, fun z => by omega, vv⟩)) (fun c0 => al_ite (fun c => al_oP (fun r7 h7 => al_oP (fun r hr => al_some ⟨fun _ => ⟨fun z => by omega, fun _ => ?_, fun z => by omega, fun z => by omega, fun z => by omega⟩, fun z => by omega, vv⟩))) (fun c1 => al_ite (fun c => al_oP (fun r hr => al_some ⟨fun _ => ⟨fun z => by omega, fun z => by omega, fun _ => largest_ok x1 r hr, fun z => by omega, fun z => by omega⟩, fun z => by omega, vv⟩)) (fun c2 => al_ite (fun c => al_oP (fun r hr => al_some ⟨fun _ => ⟨fun z => by omega, fun z => by omega, fun z => by omega, fun _ => allS_ok C1 r hr, fun z => by omega⟩, fun z => by omega, vv⟩)) (fun c3 => al_ite (fun c => al_oP (fun r hr => al_some ⟨fun _ => ⟨fun z => by omega, fun z => by omega, fun z => by omega, fun z => by omega, fun _ => longest_ok x1 r hr⟩, fun z => by omega, vv⟩)) (fun c4 => al_oI (fun r g hr => al_some ?_))))))
  · have e := companies_ok x1 (kn_sym W) (mem := memN (yN Y)) (everyone_ok x1 r7 h7) r hr
    rw [e]
    refine cnt_F (kn_sym W) (gn := -1) (fun i hi => ?_) (fun i j hi hj => kMem_N hi hj)
    unfold memN
    rw [decide_eq_true_eq]
    omega
  · obtain ⟨y1, y2⟩ := quiet_ok ha W C1 (r, g) hr
    exact ⟨fun z => by omega, fun _ => y1, (y2.v ha).trans vv⟩
theorem tellsOf_ok {Y : zY} {y : Int32} {st : zT2} {h : dH} (M : SM Y y st h) (n : mNo h) (W : Wf (yN Y) st) {v : Int32} (hv : 0 ≤ v.toInt ∧ v.toInt ≤ 4) : Al (f_X7_tellsOf v h) (fun o => figQ Y st v.toInt o.1 ∧ vFr o.2 h) := by
  unfold f_X7_tellsOf
  refine al_oV' (fun g1 h1 => ?_)
  obtain ⟨x1, x2⟩ := waysAll_ok (M.kn n) M.2.2.1 M.2.2.2.1 g1 h1
  have M1 : SM Y y st g1 := M.b (fun a k _ _ q _ => x2 a k (by omega))
  have n1 : mNo g1 := mNo.b (fun a k _ _ q _ => x2 a k (by omega)) n
  refine al_ite (fun c => al_oP (fun r hr => al_some ⟨⟨fun _ => mfriends_ok (M1.kn n1) M1.2.2.1 M1.2.2.2.1 r hr, fun z => by omega, fun z => by omega, fun z => by omega, fun z => by omega⟩, x2⟩)) (fun c0 => al_ite (fun c => al_oP (fun r hr => al_some ⟨⟨fun z => by omega, fun _ => mcomp_ok x1 n1.2.2 r hr, fun z => by omega, fun z => by omega, fun z => by omega⟩, x2⟩)) (fun c1 => al_ite (fun c => al_oP (fun r hr => al_some ⟨⟨fun z => by omega, fun z => by omega, fun _ => mlarge_ok x1 r hr, fun z => by omega, fun z => by omega⟩, x2⟩)) (fun c2 => al_ite (fun c => al_oP (fun r hr => al_some ⟨⟨fun z => by omega, fun z => by omega, fun z => by omega, fun _ => mallS_ok M1 r hr, fun z => by omega⟩, x2⟩)) (fun c3 => al_oP (fun r hr => al_some ⟨⟨fun z => by omega, fun z => by omega, fun z => by omega, fun z => by omega, fun _ => mlong_ok x1 (kn_sym W) r hr⟩, x2⟩)))))
theorem vFr.b {g h : dH} (q : vFr g h) : bFr g h := fun a k _ _ x _ => q a k (by omega)
theorem op_street {hC hM : dH} (q : RR hC hM) (v1 : Int32) : Op2 (f_X6_street v1 hC) (f_X7_street v1 hM) := by
  obtain ⟨C, M, W, R, T⟩ := q.st
  have l0 := L0
  have l5 := L5
  unfold Op2 f_X6_street
  refine al_ite (fun c => al_some (al_in (fun r qr => al_ite (fun _ => al_some ⟨rfl, q⟩) (fun z => by omega)))) (fun c => al_ite (fun d => al_some (al_in (fun r qr => al_ite (fun _ => al_some ⟨rfl, q⟩) (fun z => by omega)))) (fun d => al_oI (fun r g hr => al_some (al_in (fun r2 q2 => al_ite (fun z => by omega) (fun z => ?_))))))
  obtain ⟨x1, x2, x3⟩ := figure_ok (Or.inl rfl) C W (by omega) (r, g) hr
  refine al_ite (fun e => al_oI (fun rm gm hm => al_some ?_)) (fun e => al_oI (fun rm gm hm => al_some ?_))
  · obtain ⟨y1, y2⟩ := quietest_ok M (rm, gm) hm
    exact ⟨(x2 e).trans y1.symm, q.keep x3 y2.b⟩
  · obtain ⟨y1, y2⟩ := tellsOf_ok M q.2.2.2.2.2 W (by omega) (rm, gm) hm
    exact ⟨figQ.uniq (by omega) (x1 (by omega)) y1, q.keep x3 y2.b⟩
theorem op_way {hC hM : dH} (q : RR hC hM) (v1 v2 : Int32) : Op2 (f_X6_way v1 v2 hC) (f_X7_way v1 v2 hM) := by
  obtain ⟨C, M, W, R, T⟩ := q.st
  have M2 := M.2.2.1
  have M3 := M.2.2.2.1
  unfold Op2 f_X6_way
  refine al_house6 C.2.2.1 (fun r1 q1 => al_ite (fun c => al_some (al_house7 M2 M3 (fun r5 q5 => al_ite (fun _ => al_some ⟨rfl, q⟩) (fun z => by omega)))) (fun c => al_house6 C.2.2.1 (fun r4 q4 => al_ite (fun d => al_some (al_house7 M2 M3 (fun r5 q5 => al_ite (fun z => by omega) (fun z => al_house7 M2 M3 (fun r6 q6 => al_ite (fun _ => al_some ⟨rfl, q⟩) (fun z => by omega)))))) (fun d => al_oV' (fun g hg => al_oP (fun r hr => al_some (al_house7 M2 M3 (fun r5 q5 => al_ite (fun z => by omega) (fun z => al_house7 M2 M3 (fun r6 q6 => al_ite (fun z => by omega) (fun z => al_oV' (fun gm hgm => ?_))))))))))))
  obtain ⟨x1, x2⟩ := see_ok (Or.inl rfl) C.kn C.2.2.1 C.2.2.2.1 g hg
  obtain ⟨y1, y2⟩ := waysAll_ok (M.kn q.2.2.2.2.2) M2 M3 gm hgm
  have hi : v1.toInt.toNat < yN (yOf 43 hC) := by omega
  have hj : v2.toInt.toNat < yN (yOf 43 hC) := by omega
  obtain ⟨-, ix⟩ := ix8 (v1 := v1) (v2 := v2) (i := v1.toInt.toNat) (j := v2.toInt.toNat) (by omega) (by omega) (by omega) (by omega)
  rw [ix]
  refine al_ite (fun _ => al_some ⟨?_, q.keep x2.v y2.b⟩) (fun _ => al_none)
  have e := distance_ok x1 hi hj (v1 := v1) (v2 := v2) (by omega) (by omega) r hr
  exact Int32.toInt_inj.mp (e.trans (y1.2.2 _ _ hi hj).symm)
end
end

section
/-! years in thought, counts, kinds: on both sides -/
noncomputable section
theorem tm1 : (-1 : Int32).toInt = -1 := by decide
theorem isZ57 : zS 57 := Or.inr (Or.inl rfl)
theorem isZ43 : zS 43 := Or.inl rfl
theorem isZ71 : zS 71 := Or.inr (Or.inr rfl)
theorem op_run {hC hM : dH} (q : RR hC hM) (v1 v2 : Int32) : Op2 (f_X6_run v1 v2 hC) (f_X7_run v1 v2 hM) := by
  obtain ⟨C, M, W, R, T⟩ := q.st
  have l0 := L0
  have l4 := L4
  have l20 := L20
  have hN8 := C.2.2.2.1
  unfold Op2 f_X6_run
  refine al_oP (fun r1 h1 => ?_)
  have q1 := years6 r1 h1
  have ref : (¬ (0 ≤ v1.toInt ∧ v1.toInt ≤ 20) ∨ ¬ (0 ≤ v2.toInt ∧ v2.toInt ≤ 4)) → Al (some ((-2 : Int32), hC)) (fun o => Al (f_X7_run v1 v2 hM) (fun o2 => o.1 = o2.1 ∧ RR o.2 o2.2)) := by
    intro w
    refine al_some (al_in (fun r qr => al_ite (fun _ => al_some ⟨rfl, q⟩) (fun z => al_in (fun r2 q2 => al_ite (fun _ => al_some ⟨rfl, q⟩) (fun z => by omega)))))
  refine al_ite (fun c => ref (by omega)) (fun c => al_ite (fun d => ref (by omega)) (fun d => al_ite (fun e => ref (by omega)) (fun e => al_oV' (fun g8 h8 => al_oI (fun r9 g10 h10 => al_oI (fun r11 g12 h12 => al_some ?_))))))
  refine al_in (fun r qr => al_ite (fun z => by omega) (fun z => al_in (fun r2 q2 => al_ite (fun z => by omega) (fun z => al_oV' (fun m7 p7 => al_oV' (fun m8 p8 => al_oI (fun r9' m10 p10 => al_oV' (fun m11 p11 => al_some ?_))))))))
  have b := become_ok isZ57 isZ43 (by decide) hC g8 h8
  have hv : v1.toInt = (v1.toInt.toNat : Int) := by omega
  obtain ⟨x1, x2, x3⟩ := pass_ok isZ57 R W hv (by omega) (b.sc isZ57 isZ43 C) (r9, g10) h10
  simp only at x1 x2 x3
  obtain ⟨y1, -, y3⟩ := figure_ok isZ57 x2 (W.live _) (by omega) (r11, g12) h12
  have p := laysAside_ok hM m7 p7
  obtain ⟨z1, z2⟩ := lives_ok hv (by omega) (aside_sm M p) m8 p8
  have n8 : mNo m8 := mNo.g (z2.w.trans (fun a k _ _ _ _ => rfl)) (mNo.b (fun a k _ x y _ => p.2.2 a k (by omega) x) q.2.2.2.2.2)
  obtain ⟨w1, w2⟩ := tellsOf_ok z1 n8 (W.live _) (by omega) (r9', m10) p10
  exact ⟨figQ.uniq (by omega) (y1 (by omega)) w1, q.keep (y3.trans ((x3.v hN8).trans b.v)) (back_b p (wFr.trans (fun a k _ _ _ x => w2 a k x) z2.w) (laysBack_ok m10 m11 p11))⟩
/-! how many it takes -/
def tkQ (f : Nat → Int32) (k : Int) (r : Int32) : Prop := (∃ m : Nat, m ≤ 20 ∧ r.toInt = m ∧ k ≤ (f m).toInt ∧ ∀ j, j < m → (f j).toInt < k) ∨ (r.toInt = -1 ∧ ∀ j, j ≤ 20 → (f j).toInt < k)
theorem tkQ.uniq {f : Nat → Int32} {k : Int} {r s : Int32} (h1 : tkQ f k r) (h2 : tkQ f k s) : r = s := by
  apply Int32.toInt_inj.mp
  rcases h1 with ⟨m, a1, a2, a3, a4⟩ | ⟨a1, a2⟩ <;> rcases h2 with ⟨n, b1, b2, b3, b4⟩ | ⟨b1, b2⟩
  · rcases Nat.lt_trichotomy m n with h | h | h
    · have := b4 m h; omega
    · omega
    · have := a4 n h; omega
  · have := b2 m a1; omega
  · have := a2 n b1; omega
  · omega
theorem takes_31 {Y : zY} (hY : Yr Y) {y : Int32} {st : zT2} (W : Wf (yN Y) st) {v1 : Int32} {h0 : dH} : ∀ (n : Nat) (v2 v3 : Int32) (h : dH), 0 ≤ v3.toInt → v3.toInt ≤ 20 → v2 = frN Y y st v3.toInt.toNat → (∀ j, j < v3.toInt.toNat → (frN Y y st j).toInt < v1.toInt) → SC 57 Y (liveS Y y st v3.toInt.toNat).1 (liveS Y y st v3.toInt.toNat).2 h → cV h h0 → Al (l_X6_takes_31 v1 (fun v2_12 v3_13 g14 => if v2_12.toInt < v1.toInt then (some ((-1), g14)) else (some (v3_13, g14))) n v2 v3 h) (fun o => tkQ (frN Y y st) v1.toInt o.1 ∧ cV o.2 h0)
  | 0, _, _, _, _, _, _, _, _, _ => al_none
  | n + 1, v2, v3, h, p0, p1, e, hb, C, V => by
    have hN8 := C.2.2.2.1
    rw [l_X6_takes_31]
    have t := inc1 (v := v3) (by omega)
    obtain ⟨m, hm⟩ : ∃ m, v3.toInt.toNat = m := ⟨_, rfl⟩
    have en : (v3 + 1).toInt.toNat = m + 1 := by omega
    rw [hm] at e hb C
    have yes : ¬ v2.toInt < v1.toInt → tkQ (frN Y y st) v1.toInt v3 := fun z => Or.inl ⟨m, by omega, by omega, by rw [← e]; omega, hb⟩
    have fin : ∀ (_ : v2.toInt < v1.toInt → m = 20), Al (if v2.toInt < v1.toInt then (some ((-1 : Int32), h)) else (some (v3, h))) (fun o => tkQ (frN Y y st) v1.toInt o.1 ∧ cV o.2 h0) := fun z => al_ite (fun c => al_some ⟨Or.inr ⟨tm1, fun j hj => by
      by_cases ej : j = m
      · rw [ej, ← e]; exact c
      · exact hb j (by have := z c; omega)⟩, V⟩) (fun c => al_some ⟨yes c, V⟩)
    refine al_ite (fun c => al_ite (fun d => al_oI (fun r g hr => ?_)) (fun d => fin (fun z => absurd z d))) (fun c => fin (fun _ => by omega))
    obtain ⟨x1, x2, x3⟩ := pass_ok isZ57 hY (W.live m) (m := 1) ti1 (by omega) C (r, g) hr
    simp only at x1 x2 x3
    refine takes_31 hY W n r (v3 + 1) g (by omega) (by omega) (by rw [en]; exact x1) (fun j hj => ?_) (by rw [en]; exact x2) ((x3.v hN8).trans V)
    by_cases ej : j = m
    · rw [ej, ← e]; exact d
    · exact hb j (by omega)
theorem mtakes_21 {Y : zY} {y : Int32} {st : zT2} {v1 : Int32} {h0 : dH} (n0 : mNo h0) {K : Int32 → dH → Option (Int32 × dH)} {P : Int32 × dH → Prop} (Kk : ∀ v g, wFr g h0 → tkQ (frN Y y st) v1.toInt (if 20 < v.toInt then -1 else v) → Al (K v g) P) : ∀ (n : Nat) (v2 : Int32) (h : dH), 0 ≤ v2.toInt → v2.toInt ≤ 21 → (∀ j, j < v2.toInt.toNat → (frN Y y st j).toInt < v1.toInt) → SM Y (liveS Y y st v2.toInt.toNat).1 (liveS Y y st v2.toInt.toNat).2 h → wFr h h0 → Al (l_X7_takes_21 v1 K n v2 h) P
  | 0, _, _, _, _, _, _, _ => al_none
  | n + 1, v2, h, p0, p1, hb, M, F => by
    rw [l_X7_takes_21]
    have t := inc1 (v := v2) (by omega)
    obtain ⟨m, hm⟩ : ∃ m, v2.toInt.toNat = m := ⟨_, rfl⟩
    have en : (v2 + 1).toInt.toNat = m + 1 := by omega
    rw [hm] at hb M
    refine al_ite (fun c => Kk v2 h F ?_) (fun c => al_oP (fun r hr => al_ite (fun d => al_oV' (fun g hg => ?_)) (fun d => Kk v2 h F ?_)))
    · rw [if_pos c]
      exact Or.inr ⟨tm1, fun j hj => hb j (by omega)⟩
    · have er := mfriends_ok (M.kn (n0.g F)) M.2.2.1 M.2.2.2.1 r hr
      obtain ⟨x1, x2⟩ := lives_ok (m := 1) ti1 (by omega) M g hg
      refine mtakes_21 n0 Kk n (v2 + 1) g (by omega) (by omega) (fun j hj => ?_) (by rw [en]; exact x1) (x2.w.trans F)
      by_cases ej : j = m
      · rw [ej]
        have : frN Y y st m = r := er.symm
        rw [this]; exact d
      · exact hb j (by omega)
    · have er := mfriends_ok (M.kn (n0.g F)) M.2.2.1 M.2.2.2.1 r hr
      rw [if_neg c]
      have e2 : frN Y y st m = r := er.symm
      exact Or.inl ⟨m, by omega, by omega, by rw [e2]; omega, hb⟩
theorem op_takes {hC hM : dH} (q : RR hC hM) (v1 : Int32) : Op2 (f_X6_takes v1 hC) (f_X7_takes v1 hM) := by
  obtain ⟨C, M, W, R, T⟩ := q.st
  have l0 := L0
  have l28 := L28
  unfold Op2 f_X6_takes
  refine al_oP (fun r1 h1 => ?_)
  have q1 := friends6 r1 h1
  refine al_ite (fun c => al_some (al_in (fun r qr => al_ite (fun _ => al_some ⟨rfl, q⟩) (fun z => by omega)))) (fun c => al_oV' (fun g4 h4 => al_oP (fun r5 h5 => ?_)))
  have b := become_ok isZ57 isZ43 (by decide) hC g4 h4
  have C4 := b.sc isZ57 isZ43 C
  have e5 := friends_ok C4.kn C4.2.2.1 C4.2.2.2.1 r5 h5
  intro o ho
  obtain ⟨x1, x2⟩ := takes_31 R W fuel0 r5 0 g4 (by decide) (by decide) (by rw [ti0]; exact e5) (fun j hj => absurd hj (by rw [ti0]; exact Nat.not_lt_zero j)) (by rw [ti0]; exact C4) b.v o ho
  refine al_in (fun r qr => al_ite (fun z => by omega) (fun z => al_oV' (fun m4 p4 => ?_)))
  have p := laysAside_ok hM m4 p4
  have n4 : mNo m4 := mNo.b (fun a k _ x y _ => p.2.2 a k (by omega) x) q.2.2.2.2.2
  refine mtakes_21 (v1 := v1) n4 (fun v g F tk => al_oV' (fun g13 h13 => ?_)) _ 0 m4 (by decide) (by decide) (fun j hj => absurd hj (by rw [ti0]; exact Nat.not_lt_zero j)) (by rw [ti0]; exact aside_sm M p) (fun a k _ _ _ _ => rfl)
  have bb := back_b p F (laysBack_ok g g13 h13)
  refine al_ite (fun z => al_some ⟨?_, q.keep x2 bb⟩) (fun z => al_some ⟨?_, q.keep x2 bb⟩)
  · rw [if_pos z] at tk
    exact x1.uniq tk
  · rw [if_neg z] at tk
    exact x1.uniq tk
/-! counts -/
theorem cnt32_all : ∀ m, m ≤ 1000 → (cnt32 (fun _ => true) m).toInt = m
  | 0, _ => ti0
  | m + 1, h => by
    have ih := cnt32_all m (by omega)
    rw [cnt32, if_pos rfl, inc1 (by omega), ih]; rfl
def OpP (t u : Option Int32) : Prop := Al t (fun r => Al u (fun r2 => r = r2))
theorem mcount_65 {Y : zY} {y : Int32} {st : zT2} {h : dH} (M : SM Y y st h) {v1 : Int32} : ∀ (n : Nat) (v2 v3 : Int32), 0 ≤ v3.toInt → v3.toInt ≤ yN Y → v2 = cnt32 (fun k => decide (v1.toInt = 0 ∨ ¬ (yT Y k).toInt = -1)) v3.toInt.toNat → Al (l_X7_count_65 v1 h (fun v => some v) n v2 v3) (fun r => r = cnt32 (fun k => decide (v1.toInt = 0 ∨ ¬ (yT Y k).toInt = -1)) (yN Y))
  | 0, _, _, _, _, _ => al_none
  | n + 1, v2, v3, p0, p1, e => by
    obtain ⟨H0, H1, H2, H3, H4, H5, -⟩ := id M
    rw [l_X7_count_65, H2]
    have t := inc1 (v := v3) (by omega)
    have en : (v3 + 1).toInt.toNat = v3.toInt.toNat + 1 := by omega
    refine al_ite (fun c => ?_) (fun c => al_some (by rw [e, show v3.toInt.toNat = yN Y by omega]))
    have e6 := (H4 v3.toInt.toNat (by omega)).2.2
    rw [e6]
    refine al_ite (fun z => mcount_65 M n _ _ (by omega) (by omega) ?_) (fun z => al_ite (fun _ => al_ite (fun w => mcount_65 M n _ _ (by omega) (by omega) ?_) (fun w => mcount_65 M n _ _ (by omega) (by omega) ?_)) (fun _ => al_none))
    · rw [en, cnt32, if_pos (decide_eq_true (Or.inl z)), e]
    · rw [Int32.add_zero, en, cnt32, if_neg (by rw [decide_eq_true_eq]; omega), e]
    · rw [en, cnt32, if_pos (decide_eq_true (Or.inr w)), e]
theorem rule_eq {hC hM : dH} (q : RR hC hM) : dti (dtx (hC 43 3)) = hM 0 4 := by
  obtain ⟨w1, w2, w3, w4, w5, w6, w7, -⟩ := q.1
  rw [w7.1]
  unfold dti
  rw [show (10 + 4 * (hM 0 4).toInt.toNat - 10) / 4 = (hM 0 4).toInt.toNat by omega]
  exact i32_nat w7.2.1
theorem op_count {hC hM : dH} (q : RR hC hM) (v1 : Int32) : OpP (f_X6_count v1 hC) (f_X7_count v1 hM) := by
  obtain ⟨C, M, W, R, T⟩ := q.st
  obtain ⟨q1, q2, q3, q4, q5, q6⟩ := id q
  have l0 := L0
  have l5 := L5
  have hN8 := M.2.2.2.1
  unfold OpP f_X6_count
  have cnt : ∀ {P : Int32 → Prop}, (∀ r, r = cnt32 (fun k => decide (v1.toInt = 0 ∨ ¬ (yT (yOf 43 hC) k).toInt = -1)) (yN (yOf 43 hC)) → P r) → Al (l_X7_count_65 v1 hM (fun v2_19 => (some v2_19)) fuel0 0 0) P := fun k => al_mono (mcount_65 M _ 0 0 (by decide) (by rw [ti0]; omega) rfl) k
  refine al_ite (fun c => al_some ?_) (fun c0 => al_ite (fun c => al_oP (fun r hr => al_some ?_)) (fun c1 => al_ite (fun c => al_some ?_) (fun c2 => al_ite (fun c => al_some ?_) (fun c3 => al_ite (fun c => al_some ?_) (fun c4 => al_ite (fun c => al_some ?_) (fun c5 => al_some ?_))))))
  · refine al_in (fun r qr => al_ite (fun z => by omega) (fun z => al_ite (fun d => by omega) (fun d => cnt (fun r2 h2 => ?_))))
    rw [h2, cnt32_congr _ (fun j _ => show _ = true from decide_eq_true (Or.inl c))]
    apply Int32.toInt_inj.mp
    rw [cnt32_all _ (by omega), C.2.2.1]
  · refine al_in (fun r5 qr => al_ite (fun z => by omega) (fun z => al_ite (fun d => by omega) (fun d => cnt (fun r2 h2 => ?_))))
    rw [h2, seated_ok C T r hr]
    unfold seS
    exact cnt32_congr _ (fun j _ => by rw [decide_eq_decide]; omega)
  · exact al_in (fun r qr => al_ite (fun z => by omega) (fun z => al_ite (fun d => al_ite (fun _ => al_some M.1.symm) (fun z => by omega)) (fun d => by omega)))
  · exact al_in (fun r qr => al_ite (fun z => by omega) (fun z => al_ite (fun d => al_ite (fun z => by omega) (fun z => al_ite (fun _ => al_some q3.1) (fun z => by omega))) (fun d => by omega)))
  · exact al_in (fun r qr => al_ite (fun z => by omega) (fun z => al_ite (fun d => al_ite (fun z => by omega) (fun z => al_ite (fun z => by omega) (fun z => al_ite (fun _ => al_some q4.1) (fun z => by omega)))) (fun d => by omega)))
  · exact al_in (fun r qr => al_ite (fun z => by omega) (fun z => al_ite (fun d => al_ite (fun z => by omega) (fun z => al_ite (fun z => by omega) (fun z => al_ite (fun z => by omega) (fun z => al_some (rule_eq q))))) (fun d => by omega)))
  · exact al_in (fun r qr => al_ite (fun _ => al_some rfl) (fun z => by omega))
/-! kinds -/
def unK (a b : Nat) : Bool := decide (a = b) || (decide (b = 0) || (decide (a = 3 ∧ b = 1) || decide (a = 4 ∧ b = 2)))
theorem six6 {P : Nat → Nat → Prop} (h : ∀ a b : Fin 6, P a.val b.val) : ∀ a b, a < 6 → b < 6 → P a b := fun a b ha hb => h ⟨a, ha⟩ ⟨b, hb⟩
theorem under6 : ∀ a b, a < 6 → b < 6 → (f_X6_isUnder (Int32.ofNat a) (Int32.ofNat b)) = some (if unK a b = true then 1 else 0) := six6 (by decide +kernel)
theorem taken7 (K : Int32 → Option Int32) : ∀ a b, a < 6 → b < 6 → l_X7_taken_33 (Int32.ofNat b) K fuel0 (Int32.ofNat a) = K (if unK a b = true then Int32.ofNat b else -1) := by
  intro a b ha hb
  have h1 : a = 0 ∨ a = 1 ∨ a = 2 ∨ a = 3 ∨ a = 4 ∨ a = 5 := by omega
  have h2 : b = 0 ∨ b = 1 ∨ b = 2 ∨ b = 3 ∨ b = 4 ∨ b = 5 := by omega
  rcases h1 with rfl | rfl | rfl | rfl | rfl | rfl <;> rcases h2 with rfl | rfl | rfl | rfl | rfl | rfl <;> rfl
theorem op_taken {hC hM : dH} (q : RR hC hM) (v1 v2 : Int32) : OpP (f_X6_taken v1 v2 hC) (f_X7_taken v1 v2 hM) := by
  obtain ⟨C, M, W, R, T⟩ := q.st
  have l0 := L0
  have l5 := L5
  have M2 := M.2.2.1
  have M3 := M.2.2.2.1
  have kd := q.1.2.2.2.2.2.2.2.2.1
  unfold OpP f_X6_taken
  refine al_ite (fun c => al_some (al_in (fun r qr => al_ite (fun _ => al_some rfl) (fun z => by omega)))) (fun c => al_ite (fun d => ?_) (fun d => al_some (al_in (fun r qr => al_ite (fun _ => al_some rfl) (fun z => by omega)))))
  refine al_house6 C.2.2.1 (fun r1 q1 => al_ite (fun e => al_some (al_in (fun r qr => al_ite (fun z => by omega) (fun z => al_house7 M2 M3 (fun r5 q5 => al_ite (fun _ => al_some rfl) (fun z => by omega)))))) (fun e => al_ite (fun _ => al_oP (fun r9 h9 => ?_)) (fun _ => al_none)))
  have hi : v1.toInt.toNat < yN (yOf 43 hC) := by omega
  obtain ⟨k1, k2, k3⟩ := M.2.2.2.2.1 v1.toInt.toNat hi
  have kr := (kd v1.toInt.toNat hi).1
  obtain ⟨a, ha⟩ : ∃ a : Nat, (hC (43 + 1) v1.toInt.toNat).toInt = a := ⟨(hC (43 + 1) v1.toInt.toNat).toInt.toNat, by omega⟩
  obtain ⟨b, hb⟩ : ∃ b : Nat, v2.toInt = b := ⟨v2.toInt.toNat, by omega⟩
  have ea := i32_of ha
  have eb := i32_of hb
  have k1' : hM 4 v1.toInt.toNat = Int32.ofNat a := k1.trans ea
  have k2' : hM 5 v1.toInt.toNat = hC (43 + 2) v1.toInt.toNat := k2
  rw [ea, eb, under6 a b (by omega) (by omega)] at h9
  have e9 := Option.some.inj h9
  have mm : ∀ {P : Int32 → Prop}, Al (if (if unK a b = true then Int32.ofNat b else -1 : Int32).toInt = v2.toInt then (if 0 ≤ v1.toInt ∧ v1.toInt < 8 then ((some (hM 5 (v1.toInt.toNat)))) else none) else ((some (-13)))) P → Al (f_X7_taken v1 v2 hM) P := by
    intro P hP
    unfold f_X7_taken
    refine al_in (fun r qr => al_ite (fun z => by omega) (fun z => al_house7 M2 M3 (fun r5 q5 => al_ite (fun z => by omega) (fun z => al_ite (fun _ => ?_) (fun _ => al_none)))))
    rw [k1']
    have t7 := taken7 (fun v3_13 => if v3_13.toInt = v2.toInt then (if 0 ≤ v1.toInt ∧ v1.toInt < 8 then ((some (hM 5 (v1.toInt.toNat)))) else none) else ((some (-13)))) a b (by omega) (by omega)
    rw [← eb] at t7
    rw [t7, eb]
    rw [eb] at hP
    exact hP
  refine al_ite (fun z => al_some (mm ?_)) (fun z => al_ite (fun _ => al_some (mm ?_)) (fun _ => al_none))
  · have : ¬ unK a b = true := fun w => by rw [if_pos w] at e9; rw [← e9, ti1] at z; omega
    rw [if_neg this]
    exact al_ite (fun w => by rw [show (-1 : Int32).toInt = -1 by decide] at w; omega) (fun _ => al_some rfl)
  · have : unK a b = true := by
      cases w : unK a b with
      | true => rfl
      | false => rw [w, if_neg (by decide)] at e9; exact absurd (by rw [← e9]; exact ti0) z
    rw [if_pos this, ← eb]
    exact al_ite (fun _ => al_ite (fun _ => al_some k2'.symm) (fun _ => al_none)) (fun w => absurd rfl w)
end
end

section
/-! what would be best: a table, a change -/
noncomputable section
/-- other tables -/
def yU (Y : zY) (tb : Nat → Int32) : zY := (yN Y, yL Y, yK Y, yB Y, tb, yE Y)
theorem SC.tab {a : Nat} (ha : zS a) {Y : zY} {y : Int32} {st : zT2} {g h : dH} (C : SC a Y y st h) {tb : Nat → Int32} (e : ∀ b k, ¬ b = a + 3 → g b k = h b k) (ht : ∀ i, i < yN Y → g (a + 3) i = tb i) : SC a (yU Y tb) y st g := by
  have z := zS_or ha
  obtain ⟨h0, h1, h2, h3, h4, h5, h6, h7, h8⟩ := C
  have t := dtx_or (h a 3)
  have e3 : g a 3 = h a 3 := e a 3 (by omega)
  obtain ⟨c1, c2, c3⟩ := tEv_congr (f := g) (g := h) (ta := dtx (h a 3)) (fun k => e _ k (by omega)) (fun k => e _ k (by omega))
  refine ⟨by rw [e a 0 (by omega)]; exact h0, by rw [e a 1 (by omega)]; exact h1, by rw [e a 2 (by omega)]; exact h2, h3, fun i hi => ⟨?_, ?_, ht i hi⟩, fun i j hi hj => ?_, ?_, ?_, ?_⟩
  · rw [e (a + 1) i (by omega)]; exact (h4 i hi).1
  · rw [e (a + 2) i (by omega)]; exact (h4 i hi).2.1
  · rw [e (a + 5 + i) j (by omega)]; exact h5 i j hi hj
  · rw [e3]; exact c1.mpr h6
  · rw [e3]; exact fun nm pt hp => by rw [c2]; exact h7 nm pt hp
  · rw [e3]; exact fun pt nm hp => by rw [c3]; exact h8 pt nm hp
/-- all but what it scribbles, and the tables -/
def tFr (g h : dH) : Prop := ∀ a k, ¬ (a = 0 ∧ 14 ≤ k ∧ k ≤ 28) → ¬ (a = 0 ∧ k = 34) → ¬ (8 ≤ a ∧ a ≤ 10) → ¬ (a = 7 ∧ 64 ≤ k) → ¬ a = 6 → g a k = h a k
theorem tFr.refl (h : dH) : tFr h h := fun _ _ _ _ _ _ _ => rfl
theorem tFr.trans {f g h : dH} (q : tFr f g) (r : tFr g h) : tFr f h := fun a k x y z w v => (q a k x y z w v).trans (r a k x y z w v)
theorem bFr.t {g h : dH} (q : bFr g h) : tFr g h := fun a k x y z w _ => q a k x y z w
theorem bFr.six {g h : dH} (q : bFr g h) (k : Nat) : g 6 k = h 6 k := q 6 k (by omega) (by omega) (by omega) (by omega)
theorem tFr.b {g h : dH} (q : tFr g h) (h6 : ∀ k, g 6 k = h 6 k) : bFr g h := fun a k x y z w => by
  by_cases e : a = 6
  · rw [e]; exact h6 k
  · exact q a k x y z w e
theorem SM.tab {Y : zY} {y : Int32} {st : zT2} {g h : dH} (M : SM Y y st h) {tb : Nat → Int32} (q : tFr g h) (ht : ∀ i, i < yN Y → g 6 i = tb i) : SM (yU Y tb) y st g := by
  obtain ⟨h0, h1, h2, h3, h4, h5, h6⟩ := M
  have e : ∀ a k, ¬ (a = 0 ∧ 14 ≤ k ∧ k ≤ 28) → ¬ (a = 0 ∧ k = 34) → ¬ (8 ≤ a ∧ a ≤ 10) → ¬ (a = 7 ∧ 64 ≤ k) → ¬ a = 6 → g a k = h a k := q
  refine ⟨by rw [e 0 7 (by omega) (by omega) (by omega) (by omega) (by omega)]; exact h0, by rw [e 0 8 (by omega) (by omega) (by omega) (by omega) (by omega)]; exact h1, by rw [e 0 13 (by omega) (by omega) (by omega) (by omega) (by omega)]; exact h2, h3, fun i hi => ⟨?_, ?_, ht i hi⟩, fun i j hi hj => ?_, h6.same (fun k => e 1 k (by omega) (by omega) (by omega) (by omega) (by omega)) (fun k => e 2 k (by omega) (by omega) (by omega) (by omega) (by omega)) (e 0 4 (by omega) (by omega) (by omega) (by omega) (by omega))⟩
  · rw [e 4 i (by omega) (by omega) (by omega) (by omega) (by omega)]; exact (h4 i hi).1
  · rw [e 5 i (by omega) (by omega) (by omega) (by omega) (by omega)]; exact (h4 i hi).2.1
  · have hi' : i < 8 := Nat.lt_of_lt_of_le hi h3
    have hj' : j < 8 := Nat.lt_of_lt_of_le hj h3
    rw [e 7 _ (by omega) (by omega) (by omega) (by omega) (by omega)]; exact h5 i j hi hj
theorem mNo.t {g h : dH} (q : tFr g h) (n : mNo h) : mNo g := by
  unfold mNo at n ⊢
  rw [q 0 29 (by omega) (by omega) (by omega) (by omega) (by omega), q 0 30 (by omega) (by omega) (by omega) (by omega) (by omega), q 0 31 (by omega) (by omega) (by omega) (by omega) (by omega)]
  exact n
theorem Yr.u {Y : zY} (R : Yr Y) (tb : Nat → Int32) : Yr (yU Y tb) := R
/-- the first of the best -/
def fbS (f : Nat → Int32) (b : Int32 × Int32) : Nat → Int32 × Int32
  | 0 => b
  | t + 1 => if (fbS f b t).2.toInt < (f t).toInt then (Int32.ofNat t, f t) else fbS f b t
def upT (tb : Nat → Int32) (i : Nat) (v : Int32) : Nat → Int32 := fun k => if k = i then v else tb k
theorem best_34 {Y : zY} (R : Yr Y) {y : Int32} {st : zT2} (W : Wf (yN Y) st) {v1 v2 : Int32} {i m : Nat} (h1 : v1.toInt = i) (hi : i < yN Y) (h2 : v2.toInt = m) (hm : m < 1000) {h0 : dH} (C0 : SC 43 Y y st h0) {k : Int32 → Int32 → dH → Option (Int32 × dH)} {P : Int32 × dH → Prop} (Kk : ∀ g, cV g h0 → Al (k (fbS (fun t => frN (yU Y (upT (yT Y) i (Int32.ofNat t))) y st m) (-1, -1) 4).1 (fbS (fun t => frN (yU Y (upT (yT Y) i (Int32.ofNat t))) y st m) (-1, -1) 4).2 g) P) : ∀ (n : Nat) (v4 v5 v6 : Int32) (h : dH), 0 ≤ v6.toInt → v6.toInt ≤ 4 → v4 = (fbS (fun t => frN (yU Y (upT (yT Y) i (Int32.ofNat t))) y st m) (-1, -1) v6.toInt.toNat).1 → v5 = (fbS (fun t => frN (yU Y (upT (yT Y) i (Int32.ofNat t))) y st m) (-1, -1) v6.toInt.toNat).2 → cV h h0 → Al (l_X6_best_34 v1 v2 k n v4 v5 v6 h) P
  | 0, _, _, _, _, _, _, _, _, _ => al_none
  | n + 1, v4, v5, v6, h, p0, p1, e4, e5, V => by
    have hN8 := C0.2.2.2.1
    rw [l_X6_best_34]
    have t := inc1 (v := v6) (by omega)
    obtain ⟨p, hp⟩ : ∃ p, v6.toInt.toNat = p := ⟨_, rfl⟩
    have en : (v6 + 1).toInt.toNat = p + 1 := by omega
    have ei : v1.toInt.toNat = i := by omega
    rw [hp] at e4 e5
    rw [ei]
    refine al_ite (fun c => al_oV' (fun g12 h12 => al_ite (fun _ => al_oH' (fun g13 h13 => al_oI (fun r g hr => ?_))) (fun _ => al_none))) (fun c => ?_)
    · have C : SC 43 Y y st h := C0.keep isZ43 (fun b k hb => V b k (by omega))
      have b := become_ok isZ57 isZ43 (by decide) h g12 h12
      have C13 : SC 57 (yU Y (upT (yT Y) i (Int32.ofNat p))) y st g13 := by
        refine (b.sc isZ57 isZ43 C).tab isZ57 (fun b k q => by rw [h13, dU_ne (by omega)]) (fun j hj => ?_)
        have s := ((b.sc isZ57 isZ43 C).2.2.2.2.1 j hj).2.2
        unfold upT
        by_cases e : j = i
        · rw [if_pos e, e, h13, dU_eq]; exact i32_of (by omega)
        · rw [if_neg e, h13, dU_ne (by omega)]; exact s
      obtain ⟨x1, x2, x3⟩ := pass_ok (Y := yU Y (upT (yT Y) i (Int32.ofNat p))) isZ57 (R.u _) W h2 hm C13 (r, g) hr
      simp only at x1 x2 x3
      have v13 : cV g13 g12 := fun a k x => by rw [h13, dU_ne (by omega)]
      have vg : cV g h0 := (x3.v hN8).trans (v13.trans (b.v.trans V))
      refine al_ite (fun z => best_34 R W h1 hi h2 hm C0 Kk n _ _ (v6 + 1) g (by omega) (by omega) ?_ ?_ vg) (fun z => best_34 R W h1 hi h2 hm C0 Kk n _ _ (v6 + 1) g (by omega) (by omega) ?_ ?_ vg)
      · rw [en, fbS, if_pos (by rw [← e5, ← x1]; exact z)]; exact i32_of (by omega)
      · rw [en, fbS, if_pos (by rw [← e5, ← x1]; exact z)]; exact x1
      · rw [en, fbS, if_neg (by rw [← e5, ← x1]; exact z)]; exact e4
      · rw [en, fbS, if_neg (by rw [← e5, ← x1]; exact z)]; exact e5
    · rw [show p = 4 by omega] at e4 e5
      rw [e4, e5]
      exact Kk h V
theorem mbest_50 {Y : zY} {y : Int32} {st : zT2} {v1 v2 : Int32} {i m : Nat} (h1 : v1.toInt = i) (hi : i < yN Y) (h2 : v2.toInt = m) (hm : m < 1000) {h0 : dH} (M0 : SM Y y st h0) (n0 : mNo h0) {k : Int32 → Int32 → dH → Option (Int32 × dH)} {P : Int32 × dH → Prop} (Kk : ∀ g, tFr g h0 → (∀ j, ¬ j = i → g 6 j = h0 6 j) → Al (k (fbS (fun t => frN (yU Y (upT (yT Y) i (Int32.ofNat t))) y st m) (-1, -1) 4).1 (fbS (fun t => frN (yU Y (upT (yT Y) i (Int32.ofNat t))) y st m) (-1, -1) 4).2 g) P) : ∀ (n : Nat) (v4 v5 v6 : Int32) (h : dH), 0 ≤ v6.toInt → v6.toInt ≤ 4 → v4 = (fbS (fun t => frN (yU Y (upT (yT Y) i (Int32.ofNat t))) y st m) (-1, -1) v6.toInt.toNat).1 → v5 = (fbS (fun t => frN (yU Y (upT (yT Y) i (Int32.ofNat t))) y st m) (-1, -1) v6.toInt.toNat).2 → tFr h h0 → (∀ j, ¬ j = i → h 6 j = h0 6 j) → Al (l_X7_best_50 v1 v2 k n v4 v5 v6 h) P
  | 0, _, _, _, _, _, _, _, _, _, _ => al_none
  | n + 1, v4, v5, v6, h, p0, p1, e4, e5, F, F6 => by
    rw [l_X7_best_50]
    have t := inc1 (v := v6) (by omega)
    obtain ⟨p, hp⟩ : ∃ p, v6.toInt.toNat = p := ⟨_, rfl⟩
    have en : (v6 + 1).toInt.toNat = p + 1 := by omega
    have ei : v1.toInt.toNat = i := by omega
    rw [hp] at e4 e5
    rw [ei]
    refine al_ite (fun c => al_ite (fun _ => al_oH' (fun g13 h13 => al_oI (fun r g hr => ?_))) (fun _ => al_none)) (fun c => ?_)
    · have F13 : tFr g13 h0 := fun a k x1 x2 x3 x4 x5 => by rw [h13, dU_ne (by omega)]; exact F a k x1 x2 x3 x4 x5
      have M13 : SM (yU Y (upT (yT Y) i (Int32.ofNat p))) y st g13 := by
        refine M0.tab F13 (fun j hj => ?_)
        unfold upT
        by_cases e : j = i
        · rw [if_pos e, e, h13, dU_eq]; exact i32_of (by omega)
        · rw [if_neg e, h13, dU_ne (by omega), F6 j e]; exact (M0.2.2.2.2.1 j hj).2.2
      obtain ⟨x1, x2⟩ := friendsBehind_ok h2 hm M13 (mNo.t F13 n0) (r, g) hr
      simp only at x1 x2
      have Fg : tFr g h0 := x2.t.trans F13
      have Fg6 : ∀ j, ¬ j = i → g 6 j = h0 6 j := fun j hj => by rw [x2.six, h13, dU_ne (by omega)]; exact F6 j hj
      refine al_ite (fun z => mbest_50 h1 hi h2 hm M0 n0 Kk n _ _ (v6 + 1) g (by omega) (by omega) ?_ ?_ Fg Fg6) (fun z => mbest_50 h1 hi h2 hm M0 n0 Kk n _ _ (v6 + 1) g (by omega) (by omega) ?_ ?_ Fg Fg6)
      · rw [en, fbS, if_pos (by rw [← e5, ← x1]; exact z)]; exact i32_of (by omega)
      · rw [en, fbS, if_pos (by rw [← e5, ← x1]; exact z)]; exact x1
      · rw [en, fbS, if_neg (by rw [← e5, ← x1]; exact z)]; exact e4
      · rw [en, fbS, if_neg (by rw [← e5, ← x1]; exact z)]; exact e5
    · rw [show p = 4 by omega] at e4 e5
      rw [e4, e5]
      exact Kk h F F6
theorem op_best {hC hM : dH} (q : RR hC hM) (v1 v2 v3 : Int32) : Op2 (f_X6_best v1 v2 v3 hC) (f_X7_best v1 v2 v3 hM) := by
  obtain ⟨C, M, W, R, T⟩ := q.st
  have l0 := L0
  have l1 := L1
  have l20 := L20
  have M2 := M.2.2.1
  have M3 := M.2.2.2.1
  unfold Op2 f_X6_best
  have ref : (¬ (0 ≤ v1.toInt ∧ v1.toInt < yN (yOf 43 hC)) ∨ ¬ (0 ≤ v2.toInt ∧ v2.toInt ≤ 20) ∨ ¬ (v3.toInt = 0 ∨ v3.toInt = 1)) → Al (some ((-2 : Int32), hC)) (fun o => Al (f_X7_best v1 v2 v3 hM) (fun o2 => o.1 = o2.1 ∧ RR o.2 o2.2)) := by
    intro w
    refine al_some (al_house7 M2 M3 (fun r5 q5 => al_ite (fun _ => al_some ⟨rfl, q⟩) (fun z => al_in (fun r qr => al_ite (fun _ => al_some ⟨rfl, q⟩) (fun z => al_in (fun r2 q2 => al_ite (fun _ => al_some ⟨rfl, q⟩) (fun z => by omega)))))))
  refine al_house6 C.2.2.1 (fun r1 q1 => al_ite (fun c => ref (by omega)) (fun c => al_oP (fun r2 h2 => ?_)))
  have q2 := years6 r2 h2
  refine al_ite (fun d => ref (by omega)) (fun d => al_oP (fun r3 h3 => ?_))
  have q3 := either6 r3 h3
  refine al_ite (fun e => ref (by omega)) (fun e => ?_)
  refine best_34 R W (i := v1.toInt.toNat) (m := v2.toInt.toNat) (by omega) (by omega) (by omega) (by omega) C (fun g V => ?_) fuel0 (-1) (-1) 0 hC (by decide) (by decide) (by rw [ti0]; rfl) (by rw [ti0]; rfl) (cV.refl _)
  have mm : ∀ (x : Int32), x = (if v3.toInt = 0 then (fbS (fun t => frN (yU (yOf 43 hC) (upT (yT (yOf 43 hC)) v1.toInt.toNat (Int32.ofNat t))) (hC 43 0) (stOf 43 hC) v2.toInt.toNat) (-1, -1) 4).1 else (fbS (fun t => frN (yU (yOf 43 hC) (upT (yT (yOf 43 hC)) v1.toInt.toNat (Int32.ofNat t))) (hC 43 0) (stOf 43 hC) v2.toInt.toNat) (-1, -1) 4).2) → Al (f_X7_best v1 v2 v3 hM) (fun o2 => x = o2.1 ∧ RR g o2.2) := by
    intro x hx
    refine al_house7 M2 M3 (fun r5 q5 => al_ite (fun z => by omega) (fun z => al_in (fun r qr => al_ite (fun z => by omega) (fun z => al_in (fun r2 q2 => al_ite (fun z => by omega) (fun z => al_ite (fun _ => ?_) (fun _ => al_none)))))))
    refine mbest_50 (i := v1.toInt.toNat) (m := v2.toInt.toNat) (by omega) (by omega) (by omega) (by omega) M q.2.2.2.2.2 (fun gm F F6 => al_ite (fun _ => al_oH' (fun g24 h24 => ?_)) (fun _ => al_none)) fuel0 (-1) (-1) 0 hM (by decide) (by decide) (by rw [ti0]; rfl) (by rw [ti0]; rfl) (tFr.refl _) (fun _ _ => rfl)
    have F24 : bFr g24 hM := tFr.b (fun a k x1 x2 x3 x4 x5 => by rw [h24, dU_ne (by omega)]; exact F a k x1 x2 x3 x4 x5) (fun k => by
      by_cases e : k = v1.toInt.toNat
      · rw [e, h24, dU_eq]
      · rw [h24, dU_ne (by omega)]; exact F6 k e)
    have kk := q.keep V F24
    refine al_ite (fun z => al_some ⟨?_, kk⟩) (fun z => al_some ⟨?_, kk⟩)
    · rw [hx, if_pos z]
    · rw [hx, if_neg z]
  exact al_ite (fun z => al_some (mm _ (if_pos z).symm)) (fun z => al_some (mm _ (if_neg z).symm))
/-! a change -/
def swT (tb : Nat → Int32) (i j : Nat) : Nat → Int32 := fun k => if k = i then tb j else if k = j then tb i else tb k
def chS (Y : zY) (y : Int32) (st : zT2) (m : Nat) (i j : Nat) (s : Int32 × Int32) : Int32 × Int32 :=
  if (yT Y i).toInt = -1 then s else if (yT Y j).toInt = -1 then s else if (yT Y i).toInt = (yT Y j).toInt then s else if s.2.toInt < (frN (yU Y (swT (yT Y) i j)) y st m).toInt then (10 * Int32.ofNat i + Int32.ofNat j, frN (yU Y (swT (yT Y) i j)) y st m) else s
section CH
variable {Y : zY} {y : Int32} {st : zT2} {m i j : Nat} {s : Int32 × Int32}
theorem ch1 (h : (yT Y i).toInt = -1) : chS Y y st m i j s = s := if_pos h
theorem ch2 (h1 : ¬ (yT Y i).toInt = -1) (h : (yT Y j).toInt = -1) : chS Y y st m i j s = s := (if_neg h1).trans (if_pos h)
theorem ch3 (h1 : ¬ (yT Y i).toInt = -1) (h2 : ¬ (yT Y j).toInt = -1) (h : (yT Y i).toInt = (yT Y j).toInt) : chS Y y st m i j s = s := (if_neg h1).trans ((if_neg h2).trans (if_pos h))
theorem ch4 (h1 : ¬ (yT Y i).toInt = -1) (h2 : ¬ (yT Y j).toInt = -1) (h3 : ¬ (yT Y i).toInt = (yT Y j).toInt) (h : s.2.toInt < (frN (yU Y (swT (yT Y) i j)) y st m).toInt) : chS Y y st m i j s = (10 * Int32.ofNat i + Int32.ofNat j, frN (yU Y (swT (yT Y) i j)) y st m) := (if_neg h1).trans ((if_neg h2).trans ((if_neg h3).trans (if_pos h)))
theorem ch5 (h1 : ¬ (yT Y i).toInt = -1) (h2 : ¬ (yT Y j).toInt = -1) (h3 : ¬ (yT Y i).toInt = (yT Y j).toInt) (h : ¬ s.2.toInt < (frN (yU Y (swT (yT Y) i j)) y st m).toInt) : chS Y y st m i j s = s := (if_neg h1).trans ((if_neg h2).trans ((if_neg h3).trans (if_neg h)))
end CH
theorem change_61 {Y : zY} (R : Yr Y) {y : Int32} {st : zT2} (W : Wf (yN Y) st) {v1 v5 : Int32} {i m : Nat} (h1 : v1.toInt = m) (hm : m < 1000) (h5 : v5.toInt = i) (hi : i < yN Y) {h0 : dH} (C0 : SC 43 Y y st h0) {s0 : Int32 × Int32} {k : Int32 → Int32 → dH → Option (Int32 × dH)} {P : Int32 × dH → Prop} (Kk : ∀ g, cV g h0 → Al (k (fIn (chS Y y st m) i (yN Y) s0).1 (fIn (chS Y y st m) i (yN Y) s0).2 g) P) : ∀ (n : Nat) (v3 v4 v6 : Int32) (h : dH), i < v6.toInt → v6.toInt ≤ yN Y → v3 = (fIn (chS Y y st m) i v6.toInt.toNat s0).1 → v4 = (fIn (chS Y y st m) i v6.toInt.toNat s0).2 → cV h h0 → Al (l_X6_change_61 v1 v5 k n v3 v4 v6 h) P
  | 0, _, _, _, _, _, _, _, _, _ => al_none
  | n + 1, v3, v4, v6, h, p0, p1, e3, e4, V => by
    have hN8 := C0.2.2.2.1
    have C : SC 43 Y y st h := C0.keep isZ43 (fun b k hb => V b k (by omega))
    obtain ⟨H0, H1, H2, H3, H4, H5, -⟩ := id C
    rw [l_X6_change_61, H2]
    have t := inc1 (v := v6) (by omega)
    obtain ⟨j, hj⟩ : ∃ j, v6.toInt.toNat = j := ⟨_, rfl⟩
    have en : (v6 + 1).toInt.toNat = j + 1 := by omega
    have ei : v5.toInt.toNat = i := by omega
    rw [hj] at e3 e4
    rw [ei, hj]
    refine al_ite (fun c => al_oP (fun r14 h14 => ?_)) (fun c => ?_)
    · have hjN : j < yN Y := by omega
      have ti := (H4 i hi).2.2
      have tj := (H4 j hjN).2.2
      have ef : fIn (chS Y y st m) i (j + 1) s0 = chS Y y st m i j (fIn (chS Y y st m) i j s0) := by rw [fIn, if_pos (by omega)]
      have cc : Al (f_X6_canChange v5 v6 h) (fun r => (r.toInt = 0 ∧ ∀ s, chS Y y st m i j s = s) ∨ (r.toInt = 1 ∧ ¬ (yT Y i).toInt = -1 ∧ ¬ (yT Y j).toInt = -1 ∧ ¬ (yT Y i).toInt = (yT Y j).toInt)) := by
        unfold f_X6_canChange
        rw [ei, hj]
        rw [ti, tj]
        exact al_ite (fun _ => al_ite (fun _ => al_ite (fun z1 => al_some (Or.inl ⟨ti0, fun s => ch1 z1⟩)) (fun z1 => al_ite (fun z2 => al_some (Or.inl ⟨ti0, fun s => ch2 z1 z2⟩)) (fun z2 => al_ite (fun z3 => al_some (Or.inl ⟨ti0, fun s => ch3 z1 z2 z3⟩)) (fun z3 => al_some (Or.inr ⟨ti1, z1, z2, z3⟩))))) (fun _ => al_none)) (fun _ => al_none)
      rcases cc r14 h14 with ⟨a1, a2⟩ | ⟨a1, z1, z2, z3⟩
      · rw [if_pos a1]
        exact change_61 R W h1 hm h5 hi C0 Kk n v3 v4 (v6 + 1) h (by omega) (by omega) (by rw [en, ef, a2]; exact e3) (by rw [en, ef, a2]; exact e4) V
      · rw [if_neg (by omega)]
        refine al_oV' (fun g17 h17 => al_ite (fun _ => al_ite (fun _ => al_oH' (fun g19 h19 => al_ite (fun _ => al_ite (fun _ => al_oH' (fun g22 h22 => al_oI (fun r g hr => ?_))) (fun _ => al_none)) (fun _ => al_none))) (fun _ => al_none)) (fun _ => al_none))
        have b := become_ok isZ57 isZ43 (by decide) h g17 h17
        have Cb := b.sc isZ57 isZ43 C
        have C22 : SC 57 (yU Y (swT (yT Y) i j)) y st g22 := by
          refine Cb.tab isZ57 (fun b k q => by rw [h22, dU_ne (by omega), h19, dU_ne (by omega)]) (fun p hp => ?_)
          have s := (Cb.2.2.2.2.1 p hp).2.2
          have o : ∀ k, g17 (43 + 3) k = h (43 + 3) k := fun k => b.2.2.2.2.2.2 _ k (by omega)
          unfold swT
          by_cases e : p = i
          · rw [if_pos e, e, h22, dU_ne (by omega), h19, dU_eq, o, tj]
          · rw [if_neg e]
            by_cases e2 : p = j
            · rw [if_pos e2, e2, h22, dU_eq, h19, dU_ne (by omega), o, ti]
            · rw [if_neg e2, h22, dU_ne (by omega), h19, dU_ne (by omega)]; exact s
        obtain ⟨x1, x2, x3⟩ := pass_ok (Y := yU Y (swT (yT Y) i j)) isZ57 (R.u _) W h1 hm C22 (r, g) hr
        simp only at x1 x2 x3
        have v22 : cV g22 g17 := fun a k x => by rw [h22, dU_ne (by omega), h19, dU_ne (by omega)]
        have vg : cV g h0 := (x3.v hN8).trans (v22.trans (b.v.trans V))
        have e5 := i32_of h5
        have e6 := i32_of (show v6.toInt = j by omega)
        refine al_ite (fun z => change_61 R W h1 hm h5 hi C0 Kk n _ _ (v6 + 1) g (by omega) (by omega) ?_ ?_ vg) (fun z => change_61 R W h1 hm h5 hi C0 Kk n _ _ (v6 + 1) g (by omega) (by omega) ?_ ?_ vg)
        · rw [en, ef, ch4 z1 z2 z3 (by rw [← e4, ← x1]; exact z), e5, e6]
        · rw [en, ef, ch4 z1 z2 z3 (by rw [← e4, ← x1]; exact z)]; exact x1
        · rw [en, ef, ch5 z1 z2 z3 (by rw [← e4, ← x1]; exact z)]; exact e3
        · rw [en, ef, ch5 z1 z2 z3 (by rw [← e4, ← x1]; exact z)]; exact e4
    · rw [show j = yN Y by omega] at e3 e4
      rw [e3, e4]
      exact Kk h V
theorem change_43 {Y : zY} (R : Yr Y) {y : Int32} {st : zT2} (W : Wf (yN Y) st) {v1 : Int32} {m : Nat} (h1 : v1.toInt = m) (hm : m < 1000) {h0 : dH} (C0 : SC 43 Y y st h0) {s0 : Int32 × Int32} {k : Int32 → Int32 → dH → Option (Int32 × dH)} {P : Int32 × dH → Prop} (Kk : ∀ g, cV g h0 → Al (k (fOut (chS Y y st m) (yN Y) (yN Y) s0).1 (fOut (chS Y y st m) (yN Y) (yN Y) s0).2 g) P) : ∀ (n : Nat) (v3 v4 v5 : Int32) (h : dH), 0 ≤ v5.toInt → v5.toInt ≤ yN Y → v3 = (fOut (chS Y y st m) (yN Y) v5.toInt.toNat s0).1 → v4 = (fOut (chS Y y st m) (yN Y) v5.toInt.toNat s0).2 → cV h h0 → Al (l_X6_change_43 v1 k n v3 v4 v5 h) P
  | 0, _, _, _, _, _, _, _, _, _ => al_none
  | n + 1, v3, v4, v5, h, p0, p1, e3, e4, V => by
    have hN8 := C0.2.2.2.1
    have C : SC 43 Y y st h := C0.keep isZ43 (fun b k hb => V b k (by omega))
    rw [l_X6_change_43, C.2.2.1]
    have t := inc1 (v := v5) (by omega)
    have en : (v5 + 1).toInt.toNat = v5.toInt.toNat + 1 := by omega
    refine al_ite (fun c => ?_) (fun c => ?_)
    · refine change_61 R W h1 hm (i := v5.toInt.toNat) (by omega) (by omega) C0 (s0 := fOut (chS Y y st m) (yN Y) v5.toInt.toNat s0) (fun g Vg => ?_) fuel0 v3 v4 (v5 + 1) h (by omega) (by omega) (by rw [fIn_le _ (by omega)]; exact e3) (by rw [fIn_le _ (by omega)]; exact e4) V
      exact change_43 R W h1 hm C0 Kk n _ _ (v5 + 1) g (by omega) (by omega) (by rw [en]; rfl) (by rw [en]; rfl) Vg
    · rw [show v5.toInt.toNat = yN Y by omega] at e3 e4
      rw [e3, e4]
      exact Kk h V
theorem mchange_52 {Y : zY} {y : Int32} {st : zT2} {v1 v5 : Int32} {i m : Nat} (h1 : v1.toInt = m) (hm : m < 1000) (h5 : v5.toInt = i) (hi : i < yN Y) {h0 : dH} (M0 : SM Y y st h0) (n0 : mNo h0) {s0 : Int32 × Int32} {k : Int32 → Int32 → dH → Option (Int32 × dH)} {P : Int32 × dH → Prop} (Kk : ∀ g, bFr g h0 → Al (k (fIn (chS Y y st m) i (yN Y) s0).1 (fIn (chS Y y st m) i (yN Y) s0).2 g) P) : ∀ (n : Nat) (v3 v4 v6 : Int32) (h : dH), i < v6.toInt → v6.toInt ≤ yN Y → v3 = (fIn (chS Y y st m) i v6.toInt.toNat s0).1 → v4 = (fIn (chS Y y st m) i v6.toInt.toNat s0).2 → bFr h h0 → Al (l_X7_change_52 v1 v5 k n v3 v4 v6 h) P
  | 0, _, _, _, _, _, _, _, _, _ => al_none
  | n + 1, v3, v4, v6, h, p0, p1, e3, e4, V => by
    have hN8 := M0.2.2.2.1
    have M : SM Y y st h := M0.b V
    obtain ⟨H0, H1, H2, H3, H4, H5, -⟩ := id M
    rw [l_X7_change_52, H2]
    have t := inc1 (v := v6) (by omega)
    obtain ⟨j, hj⟩ : ∃ j, v6.toInt.toNat = j := ⟨_, rfl⟩
    have en : (v6 + 1).toInt.toNat = j + 1 := by omega
    have ei : v5.toInt.toNat = i := by omega
    rw [hj] at e3 e4
    rw [ei, hj]
    refine al_ite (fun c => ?_) (fun c => ?_)
    · have hjN : j < yN Y := by omega
      have ti := (H4 i hi).2.2
      have tj := (H4 j hjN).2.2
      have ef : fIn (chS Y y st m) i (j + 1) s0 = chS Y y st m i j (fIn (chS Y y st m) i j s0) := by rw [fIn, if_pos (by omega)]
      have stay : (∀ s, chS Y y st m i j s = s) → Al (l_X7_change_52 v1 v5 k n v3 v4 (v6 + 1) h) P := fun a2 => mchange_52 h1 hm h5 hi M0 n0 Kk n v3 v4 (v6 + 1) h (by omega) (by omega) (by rw [en, ef, a2]; exact e3) (by rw [en, ef, a2]; exact e4) V
      rw [ti, tj]
      refine al_ite (fun _ => al_ite (fun _ => al_ite (fun z1 => stay (fun s => ch1 z1)) (fun z1 => al_ite (fun z2 => stay (fun s => ch2 z1 z2)) (fun z2 => al_ite (fun z3 => stay (fun s => ch3 z1 z2 z3)) (fun z3 => al_ite (fun _ => al_oH' (fun g21 h21 => al_ite (fun _ => al_oH' (fun g23 h23 => al_oI (fun r g26 hr => al_ite (fun _ => al_oH' (fun g27 h27 => al_ite (fun _ => al_oH' (fun g h29 => ?_)) (fun _ => al_none))) (fun _ => al_none)))) (fun _ => al_none))) (fun _ => al_none))))) (fun _ => al_none)) (fun _ => al_none)
      have F23 : tFr g23 h := fun a k x1 x2 x3 x4 x5 => by rw [h23, dU_ne (by omega), h21, dU_ne (by omega)]
      have M23 : SM (yU Y (swT (yT Y) i j)) y st g23 := by
        refine M.tab F23 (fun p hp => ?_)
        unfold swT
        by_cases e : p = i
        · rw [if_pos e, e, h23, dU_ne (by omega), h21, dU_eq]
        · rw [if_neg e]
          by_cases e2 : p = j
          · rw [if_pos e2, e2, h23, dU_eq]
          · rw [if_neg e2, h23, dU_ne (by omega), h21, dU_ne (by omega)]; exact (H4 p hp).2.2
      obtain ⟨x1, x2⟩ := friendsBehind_ok h1 hm M23 (mNo.t F23 (mNo.b V n0)) (r, g26) hr
      simp only at x1 x2
      have vg : bFr g h0 := bFr.trans (tFr.b (fun a k y1 y2 y3 y4 y5 => by rw [h29, dU_ne (by omega), h27, dU_ne (by omega), x2 a k y1 y2 y3 y4]; exact F23 a k y1 y2 y3 y4 y5) (fun p => by
        by_cases e2 : p = j
        · rw [e2, h29, dU_eq, tj]
        · rw [h29, dU_ne (by omega)]
          by_cases e : p = i
          · rw [e, h27, dU_eq, ti]
          · rw [h27, dU_ne (by omega), x2.six, h23, dU_ne (by omega), h21, dU_ne (by omega)])) V
      have e5 := i32_of h5
      have e6 := i32_of (show v6.toInt = j by omega)
      refine al_ite (fun z => mchange_52 h1 hm h5 hi M0 n0 Kk n _ _ (v6 + 1) g (by omega) (by omega) ?_ ?_ vg) (fun z => mchange_52 h1 hm h5 hi M0 n0 Kk n _ _ (v6 + 1) g (by omega) (by omega) ?_ ?_ vg)
      · rw [en, ef, ch4 z1 z2 z3 (by rw [← e4, ← x1]; exact z), e5, e6]
      · rw [en, ef, ch4 z1 z2 z3 (by rw [← e4, ← x1]; exact z)]; exact x1
      · rw [en, ef, ch5 z1 z2 z3 (by rw [← e4, ← x1]; exact z)]; exact e3
      · rw [en, ef, ch5 z1 z2 z3 (by rw [← e4, ← x1]; exact z)]; exact e4
    · rw [show j = yN Y by omega] at e3 e4
      rw [e3, e4]
      exact Kk h V
theorem mchange_37 {Y : zY} {y : Int32} {st : zT2} {v1 : Int32} {m : Nat} (h1 : v1.toInt = m) (hm : m < 1000) {h0 : dH} (M0 : SM Y y st h0) (n0 : mNo h0) {s0 : Int32 × Int32} {k : Int32 → Int32 → dH → Option (Int32 × dH)} {P : Int32 × dH → Prop} (Kk : ∀ g, bFr g h0 → Al (k (fOut (chS Y y st m) (yN Y) (yN Y) s0).1 (fOut (chS Y y st m) (yN Y) (yN Y) s0).2 g) P) : ∀ (n : Nat) (v3 v4 v5 : Int32) (h : dH), 0 ≤ v5.toInt → v5.toInt ≤ yN Y → v3 = (fOut (chS Y y st m) (yN Y) v5.toInt.toNat s0).1 → v4 = (fOut (chS Y y st m) (yN Y) v5.toInt.toNat s0).2 → bFr h h0 → Al (l_X7_change_37 v1 k n v3 v4 v5 h) P
  | 0, _, _, _, _, _, _, _, _, _ => al_none
  | n + 1, v3, v4, v5, h, p0, p1, e3, e4, V => by
    have hN8 := M0.2.2.2.1
    rw [l_X7_change_37, (M0.b V).2.2.1]
    have t := inc1 (v := v5) (by omega)
    have en : (v5 + 1).toInt.toNat = v5.toInt.toNat + 1 := by omega
    refine al_ite (fun c => ?_) (fun c => ?_)
    · refine mchange_52 h1 hm (i := v5.toInt.toNat) (by omega) (by omega) M0 n0 (s0 := fOut (chS Y y st m) (yN Y) v5.toInt.toNat s0) (fun g Vg => ?_) fuel0 v3 v4 (v5 + 1) h (by omega) (by omega) (by rw [fIn_le _ (by omega)]; exact e3) (by rw [fIn_le _ (by omega)]; exact e4) V
      exact mchange_37 h1 hm M0 n0 Kk n _ _ (v5 + 1) g (by omega) (by omega) (by rw [en]; rfl) (by rw [en]; rfl) Vg
    · rw [show v5.toInt.toNat = yN Y by omega] at e3 e4
      rw [e3, e4]
      exact Kk h V
theorem op_change {hC hM : dH} (q : RR hC hM) (v1 v2 : Int32) : Op2 (f_X6_change v1 v2 hC) (f_X7_change v1 v2 hM) := by
  obtain ⟨C, M, W, R, T⟩ := q.st
  have l0 := L0
  have l1 := L1
  have l20 := L20
  unfold Op2 f_X6_change
  have ref : (¬ (0 ≤ v1.toInt ∧ v1.toInt ≤ 20) ∨ ¬ (v2.toInt = 0 ∨ v2.toInt = 1)) → Al (some ((-2 : Int32), hC)) (fun o => Al (f_X7_change v1 v2 hM) (fun o2 => o.1 = o2.1 ∧ RR o.2 o2.2)) := by
    intro w
    refine al_some (al_in (fun r qr => al_ite (fun _ => al_some ⟨rfl, q⟩) (fun z => al_in (fun r2 q2 => al_ite (fun _ => al_some ⟨rfl, q⟩) (fun z => by omega)))))
  refine al_oP (fun r2 h2 => ?_)
  have q2 := years6 r2 h2
  refine al_ite (fun d => ref (by omega)) (fun d => al_oP (fun r3 h3 => ?_))
  have q3 := either6 r3 h3
  have hv : v1.toInt = (v1.toInt.toNat : Int) := by omega
  refine al_ite (fun e => ref (by omega)) (fun e => al_oV' (fun g7 h7 => al_oI (fun r8 g9 h9 => ?_)))
  have b := become_ok isZ57 isZ43 (by decide) hC g7 h7
  obtain ⟨x1, x2, x3⟩ := pass_ok isZ57 R W hv (by omega) (b.sc isZ57 isZ43 C) (r8, g9) h9
  simp only at x1 x2 x3
  refine change_43 R W hv (by omega) C (s0 := (-1, frN (yOf 43 hC) (hC 43 0) (stOf 43 hC) v1.toInt.toNat)) (fun g V => ?_) fuel0 (-1) r8 0 g9 (by decide) (by rw [ti0]; omega) (by rw [ti0]; rfl) (by rw [ti0]; exact x1) ((x3.v C.2.2.2.1).trans b.v)
  have mm : ∀ (x : Int32), x = (if v2.toInt = 0 then (fOut (chS (yOf 43 hC) (hC 43 0) (stOf 43 hC) v1.toInt.toNat) (yN (yOf 43 hC)) (yN (yOf 43 hC)) (-1, frN (yOf 43 hC) (hC 43 0) (stOf 43 hC) v1.toInt.toNat)).1 else (fOut (chS (yOf 43 hC) (hC 43 0) (stOf 43 hC) v1.toInt.toNat) (yN (yOf 43 hC)) (yN (yOf 43 hC)) (-1, frN (yOf 43 hC) (hC 43 0) (stOf 43 hC) v1.toInt.toNat)).2) → Al (f_X7_change v1 v2 hM) (fun o2 => x = o2.1 ∧ RR g o2.2) := by
    intro x hx
    refine al_in (fun r qr => al_ite (fun z => by omega) (fun z => al_in (fun r2 q2 => al_ite (fun z => by omega) (fun z => al_oI (fun r7 m8 h8 => ?_)))))
    obtain ⟨y1, y2⟩ := friendsBehind_ok hv (by omega) M q.2.2.2.2.2 (r7, m8) h8
    simp only at y1 y2
    refine mchange_37 hv (by omega) M q.2.2.2.2.2 (s0 := (-1, frN (yOf 43 hC) (hC 43 0) (stOf 43 hC) v1.toInt.toNat)) (fun gm F => ?_) fuel0 (-1) r7 0 m8 (by decide) (by rw [ti0]; omega) (by rw [ti0]; rfl) (by rw [ti0]; exact y1) y2
    have kk := q.keep V F
    refine al_ite (fun z => al_some ⟨?_, kk⟩) (fun z => al_some ⟨?_, kk⟩)
    · rw [hx, if_pos z]
    · rw [hx, if_neg z]
  exact al_ite (fun z => al_some (mm _ (if_pos z).symm)) (fun z => al_some (mm _ (if_neg z).symm))
end
end

section
/-! tables that are drawn; chances -/
noncomputable section
def lcS (z : Int32) : Nat → Int32
  | 0 => z
  | m + 1 => lcS z m * 1103515245 + 12345
theorem lc0 (z : Int32) : z = lcS z (0 : Int32).toInt.toNat := by
  rw [ti0]
  show z = lcS z 0
  rw [lcS]
def tbD (z : Int32) (k : Nat) : Int32 := drem (dushr (lcS z (k + 1)) 9) 4
def drS (Y : zY) (y : Int32) (st : zT2) (z : Int32) (m : Nat) : Int32 := frN (yU Y (tbD z)) y st m
theorem drawn_16 {N : Nat} (hN8 : N ≤ 8) {z : Int32} {h0 : dH} (hN : (h0 43 2).toInt = N) {k : dH → Option (Int32 × dH)} {P : Int32 × dH → Prop} (Kk : ∀ g, (∀ b j, ¬ b = 60 → g b j = h0 b j) → (∀ j, j < N → g 60 j = tbD z j) → Al (k g) P) : ∀ (n : Nat) (v3 v4 : Int32) (h : dH), 0 ≤ v4.toInt → v4.toInt ≤ N → v3 = lcS z v4.toInt.toNat → (∀ b j, ¬ b = 60 → h b j = h0 b j) → (∀ j, j < v4.toInt.toNat → h 60 j = tbD z j) → Al (l_X6_friendsDrawn_16 k n v3 v4 h) P
  | 0, _, _, _, _, _, _, _, _ => al_none
  | n + 1, v3, v4, h, p0, p1, e, F, T => by
    rw [l_X6_friendsDrawn_16, F 43 2 (by omega), hN]
    have t := inc1 (v := v4) (by omega)
    have en : (v4 + 1).toInt.toNat = v4.toInt.toNat + 1 := by omega
    refine al_ite (fun c => al_ite (fun _ => al_oH' (fun g hg => drawn_16 hN8 hN Kk n _ (v4 + 1) g (by omega) (by omega) (by rw [en, lcS, e]) (fun b j q => by rw [hg, dU_ne (by omega)]; exact F b j q) (fun j hj => ?_))) (fun _ => al_none)) (fun c => Kk h F (fun j hj => T j (by omega)))
    by_cases ej : j = v4.toInt.toNat
    · rw [ej, hg]
      show dU h 60 _ _ 60 _ = _
      rw [dU_eq]
      unfold tbD
      rw [lcS, e]
    · rw [hg]
      show dU h 60 _ _ 60 _ = _
      rw [dU_ne (by omega)]
      exact T j (by omega)
theorem pass_u {Y : zY} (R : Yr Y) {y : Int32} {st : zT2} (W : Wf (yN Y) st) {v2 : Int32} {m : Nat} (h2 : v2.toInt = m) (hm : m < 1000) (hN8 : yN Y ≤ 8) {tt : Nat → Int32} {g : dH} (C2 : SC 57 (yU Y tt) y st g) {r : Int32} {g10 : dH} (hr : f_X3_pass 57 v2 g = some (r, g10)) : r = frN (yU Y tt) y st m ∧ cV g10 g := by
  obtain ⟨x1, x2, x3⟩ := pass_ok (Y := yU Y tt) isZ57 (R.u _) W h2 hm C2 (r, g10) hr
  exact ⟨x1, x3.v hN8⟩
theorem friendsDrawn_ok {Y : zY} (R : Yr Y) {y : Int32} {st : zT2} (W : Wf (yN Y) st) {v1 v2 : Int32} {m : Nat} (h2 : v2.toInt = m) (hm : m < 1000) {h : dH} (C : SC 43 Y y st h) : Al (f_X6_friendsDrawn v1 v2 h) (fun o => o.1 = drS Y y st v1 m ∧ cV o.2 h) := by
  have hN8 := C.2.2.2.1
  unfold f_X6_friendsDrawn
  refine al_oV' (fun g1 h1 => ?_)
  have b := become_ok isZ57 isZ43 (by decide) h g1 h1
  have C1 := b.sc isZ57 isZ43 C
  have C43 : SC 43 Y y st g1 := C.keep isZ43 (fun b' k hb => b.v b' k (by omega))
  exact drawn_16 (N := yN Y) hN8 (z := v1) (h0 := g1) C43.2.2.1 (fun g F T => al_oI (fun r g10 hr => al_some ⟨(pass_u R W h2 hm hN8 (C1.tab isZ57 (tb := tbD v1) F T) hr).1, ((pass_u R W h2 hm hN8 (C1.tab isZ57 (tb := tbD v1) F T) hr).2).trans ((show cV g g1 from fun a k x => F a k (by omega)).trans b.v)⟩)) _ v1 0 g1 (by decide) (by rw [ti0]; omega) (lc0 v1) (fun _ _ _ => rfl) (fun j hj => absurd hj (by rw [ti0]; exact Nat.not_lt_zero j))
theorem fB10 {Y : zY} {y : Int32} {st : zT2} {v1 : Int32} {m : Nat} (hv : v1.toInt = m) (hm : m < 1000) {h : dH} (H : SM Y y st h) : Al (f_X7_friendsBehind v1 h) (fun o => ∀ k, o.2 10 k = h 10 k) := by
  unfold f_X7_friendsBehind
  refine al_oV' (fun g1 h1 => al_oV' (fun g2 h2 => al_oP (fun r hr => al_oV' (fun g4 h4 => al_some (fun k => ?_)))))
  have q1 := laysAside_ok h g1 h1
  obtain ⟨x1, x2⟩ := lives_ok hv hm (aside_sm H q1) g2 h2
  show g4 10 k = h 10 k
  rw [(laysBack_ok g2 g4 h4).2.2 10 k (by omega) (by omega), x2 10 k (by omega) (by omega) (by omega), q1.2.2 10 k (by omega) (by omega)]
theorem clears_2 {N : Nat} (hN8 : N ≤ 8) {h0 : dH} (hN : (h0 0 13).toInt = N) : ∀ (n : Nat) (v1 : Int32) (h : dH), 0 ≤ v1.toInt → v1.toInt ≤ N → (∀ j, j < v1.toInt.toNat → h 10 j = h0 6 j) → (∀ a j, ¬ a = 10 → h a j = h0 a j) → Al (l_X7_clears_2 (fun g => some g) n v1 h) (fun g => (∀ j, j < N → g 10 j = h0 6 j) ∧ ∀ a j, ¬ a = 10 → g a j = h0 a j)
  | 0, _, _, _, _, _, _ => al_none
  | n + 1, v1, h, p0, p1, h1, h2 => by
    rw [l_X7_clears_2, h2 0 13 (by omega), hN]
    have t := inc1 (v := v1) (by omega)
    refine al_ite (fun c1 => al_ite (fun _ => al_ite (fun _ => al_oH' (fun g hg => ?_)) (fun _ => al_none)) (fun _ => al_none)) (fun c1 => al_some ⟨fun j hj => h1 j (by omega), h2⟩)
    refine clears_2 hN8 hN n (v1 + 1) g (by omega) (by omega) (fun j hj => ?_) (fun a j q => by rw [hg, dU_ne (by omega)]; exact h2 a j q)
    by_cases e : j = v1.toInt.toNat
    · rw [e, hg, dU_eq]; exact h2 _ _ (by omega)
    · rw [hg, dU_ne (by omega)]; exact h1 j (by omega)
theorem clears_ok {N : Nat} (hN8 : N ≤ 8) {h : dH} (hN : (h 0 13).toInt = N) : Al (f_X7_clears h) (fun g => (∀ j, j < N → g 10 j = h 6 j) ∧ ∀ a j, ¬ a = 10 → g a j = h a j) :=
  clears_2 hN8 hN _ 0 h (by decide) (by rw [ti0]; omega) (fun j hj => absurd hj (by rw [ti0]; exact Nat.not_lt_zero j)) (fun _ _ _ => rfl)
theorem sits_2 {N : Nat} (hN8 : N ≤ 8) {h0 : dH} (hN : (h0 0 13).toInt = N) : ∀ (n : Nat) (v1 : Int32) (h : dH), 0 ≤ v1.toInt → v1.toInt ≤ N → (∀ j, j < v1.toInt.toNat → h 6 j = h0 10 j) → (∀ a j, ¬ (a = 6 ∧ j < N) → h a j = h0 a j) → Al (l_X7_sitsAgain_2 (fun g => some g) n v1 h) (fun g => (∀ j, j < N → g 6 j = h0 10 j) ∧ ∀ a j, ¬ (a = 6 ∧ j < N) → g a j = h0 a j)
  | 0, _, _, _, _, _, _ => al_none
  | n + 1, v1, h, p0, p1, h1, h2 => by
    rw [l_X7_sitsAgain_2, h2 0 13 (by omega), hN]
    have t := inc1 (v := v1) (by omega)
    refine al_ite (fun c1 => al_ite (fun _ => al_ite (fun _ => al_oH' (fun g hg => ?_)) (fun _ => al_none)) (fun _ => al_none)) (fun c1 => al_some ⟨fun j hj => h1 j (by omega), h2⟩)
    refine sits_2 hN8 hN n (v1 + 1) g (by omega) (by omega) (fun j hj => ?_) (fun a j q => by rw [hg, dU_ne (by omega)]; exact h2 a j q)
    by_cases e : j = v1.toInt.toNat
    · rw [e, hg, dU_eq]; exact h2 _ _ (by omega)
    · rw [hg, dU_ne (by omega)]; exact h1 j (by omega)
theorem sits_ok {N : Nat} (hN8 : N ≤ 8) {h : dH} (hN : (h 0 13).toInt = N) : Al (f_X7_sitsAgain h) (fun g => (∀ j, j < N → g 6 j = h 10 j) ∧ ∀ a j, ¬ (a = 6 ∧ j < N) → g a j = h a j) :=
  sits_2 hN8 hN _ 0 h (by decide) (by rw [ti0]; omega) (fun j hj => absurd hj (by rw [ti0]; exact Nat.not_lt_zero j)) (fun _ _ _ => rfl)
/-- tables put aside, changed, put back -/
theorem sits_b {N : Nat} {h g1 g2 g3 g4 : dH} (q1 : (∀ j, j < N → g1 10 j = h 6 j) ∧ ∀ a j, ¬ a = 10 → g1 a j = h a j) (q2 : ∀ a j, ¬ (a = 6 ∧ j < N) → g2 a j = g1 a j) (q3 : bFr g3 g2) (q3' : ∀ k, g3 10 k = g2 10 k) (q4 : (∀ j, j < N → g4 6 j = g3 10 j) ∧ ∀ a j, ¬ (a = 6 ∧ j < N) → g4 a j = g3 a j) : bFr g4 h := by
  intro a k x y z w
  by_cases c : a = 6 ∧ k < N
  · obtain ⟨rfl, hk⟩ := c
    rw [q4.1 k hk, q3', q2 10 k (by omega), q1.1 k hk]
  · rw [q4.2 a k c, q3 a k x y z w, q2 a k c, q1.2 a k (by omega)]
theorem by_9 {N : Nat} (hN8 : N ≤ 8) {z : Int32} {h0 : dH} (hN : (h0 0 13).toInt = N) {k : dH → Option (Int32 × dH)} {P : Int32 × dH → Prop} (Kk : ∀ g, (∀ b j, ¬ (b = 6 ∧ j < N) → g b j = h0 b j) → (∀ j, j < N → g 6 j = tbD z j) → Al (k g) P) : ∀ (n : Nat) (v3 v4 : Int32) (h : dH), 0 ≤ v4.toInt → v4.toInt ≤ N → v3 = lcS z v4.toInt.toNat → (∀ b j, ¬ (b = 6 ∧ j < N) → h b j = h0 b j) → (∀ j, j < v4.toInt.toNat → h 6 j = tbD z j) → Al (l_X7_friendsBy_9 k n v3 v4 h) P
  | 0, _, _, _, _, _, _, _, _ => al_none
  | n + 1, v3, v4, h, p0, p1, e, F, T => by
    rw [l_X7_friendsBy_9, F 0 13 (by omega), hN]
    have t := inc1 (v := v4) (by omega)
    have en : (v4 + 1).toInt.toNat = v4.toInt.toNat + 1 := by omega
    refine al_ite (fun c => al_ite (fun _ => al_oH' (fun g hg => by_9 hN8 hN Kk n _ (v4 + 1) g (by omega) (by omega) (by rw [en, lcS, e]) (fun b j q => by rw [hg, dU_ne (by omega)]; exact F b j q) (fun j hj => ?_))) (fun _ => al_none)) (fun c => Kk h F (fun j hj => T j (by omega)))
    by_cases ej : j = v4.toInt.toNat
    · rw [ej, hg, dU_eq]
      unfold tbD
      rw [lcS, e]
    · rw [hg, dU_ne (by omega)]
      exact T j (by omega)
theorem behind_u {Y : zY} {y : Int32} {st : zT2} {v2 : Int32} {m : Nat} (h2 : v2.toInt = m) (hm : m < 1000) {tt : Nat → Int32} {g h : dH} (M : SM Y y st h) (F : tFr g h) (T : ∀ j, j < yN Y → g 6 j = tt j) (n : mNo h) {r : Int32} {g10 : dH} (hr : f_X7_friendsBehind v2 g = some (r, g10)) : r = frN (yU Y tt) y st m ∧ bFr g10 g ∧ (∀ k, g10 10 k = g 10 k) ∧ (g10 0 13).toInt = yN Y := by
  have M2 : SM (yU Y tt) y st g := M.tab F T
  obtain ⟨x1, x2⟩ := friendsBehind_ok h2 hm M2 (mNo.t F n) (r, g10) hr
  have x3 := fB10 h2 hm M2 (r, g10) hr
  refine ⟨x1, x2, x3, ?_⟩
  have e := x2 0 13 (by omega) (by omega) (by omega) (by omega)
  simp only at e
  rw [e]
  exact M2.2.2.1
theorem friendsBy_ok {Y : zY} {y : Int32} {st : zT2} {v1 v2 : Int32} {m : Nat} (h2 : v2.toInt = m) (hm : m < 1000) {h : dH} (M : SM Y y st h) (n : mNo h) : Al (f_X7_friendsBy v1 v2 h) (fun o => o.1 = drS Y y st v1 m ∧ bFr o.2 h) := by
  have hN8 := M.2.2.2.1
  unfold f_X7_friendsBy
  refine al_oV' (fun g1 h1 => ?_)
  have q1 := clears_ok hN8 M.2.2.1 g1 h1
  have key : ∀ (tt : Nat → Int32) (g : dH), (∀ b j, ¬ (b = 6 ∧ j < yN Y) → g b j = g1 b j) → (∀ j, j < yN Y → g 6 j = tt j) → Al (oI (f_X7_friendsBehind v2 g) (fun r9 g10 => oV (f_X7_sitsAgain g10) (fun g11 => some (r9, g11)))) (fun o => o.1 = frN (yU Y tt) y st m ∧ bFr o.2 h) := by
    intro tt g F T
    refine al_oI (fun r g10 hr => al_oV' (fun g11 h11 => al_some ?_))
    have Ft : tFr g h := fun a k x1 x2 x3 x4 x5 => by rw [F a k (by omega), q1.2 a k (by omega)]
    obtain ⟨x1, x2, x3, x4⟩ := behind_u h2 hm M Ft T n hr
    exact ⟨x1, sits_b q1 F x2 x3 (sits_ok hN8 x4 g11 h11)⟩
  exact by_9 (N := yN Y) hN8 (z := v1) (h0 := g1) (by rw [q1.2 0 13 (by omega)]; exact M.2.2.1) (fun g F T => key (tbD v1) g F T) _ v1 0 g1 (by decide) (by rw [ti0]; omega) (lc0 v1) (fun _ _ _ => rfl) (fun j hj => absurd hj (by rw [ti0]; exact Nat.not_lt_zero j))
theorem op_drawn {hC hM : dH} (q : RR hC hM) (v1 v2 : Int32) : Op2 (f_X6_drawn v1 v2 hC) (f_X7_drawn v1 v2 hM) := by
  obtain ⟨C, M, W, R, T⟩ := q.st
  have l0 := L0
  have l20 := L20
  unfold Op2 f_X6_drawn
  refine al_oP (fun r2 h2 => ?_)
  have q2 := years6 r2 h2
  have hv : ¬ r2.toInt = 0 → v2.toInt = (v2.toInt.toNat : Int) := fun _ => by omega
  refine al_ite (fun d => al_some (al_in (fun r qr => al_ite (fun _ => al_some ⟨rfl, q⟩) (fun z => by omega)))) (fun d => al_oI (fun r g hr => al_some (al_in (fun r5 qr => al_ite (fun z => by omega) (fun z => al_oI (fun rm gm hm => al_some ?_))))))
  obtain ⟨x1, x2⟩ := friendsDrawn_ok R W (hv d) (by omega) C (r, g) hr
  obtain ⟨y1, y2⟩ := friendsBy_ok (hv d) (by omega) M q.2.2.2.2.2 (rm, gm) hm
  exact ⟨x1.trans y1.symm, q.keep x2 y2⟩
/-! chances -/
def abS (Y : zY) (y : Int32) (st : zT2) (z : Int32) (k : Int) (t : Nat) : Bool := decide (¬ (drS Y y st (z + Int32.ofNat t) 3).toInt < k)
theorem chance_36 {Y : zY} (R : Yr Y) {y : Int32} {st : zT2} (W : Wf (yN Y) st) {v1 v2 v3 : Int32} {m : Nat} (h2 : v2.toInt = m) (hm : m < 1000) {h0 : dH} (C0 : SC 43 Y y st h0) {k : Int32 → dH → Option (Int64 × dH)} {P : Int64 × dH → Prop} (Kk : ∀ v g, v.toInt = (cntB (abS Y y st v1 v3.toInt) m : Int) → cV g h0 → Al (k v g) P) : ∀ (n : Nat) (v5 v6 : Int32) (h : dH), 0 ≤ v6.toInt → v6.toInt ≤ m → v5.toInt = (cntB (abS Y y st v1 v3.toInt) v6.toInt.toNat : Int) → cV h h0 → Al (l_X6_chance_36 v1 v2 v3 k n v5 v6 h) P
  | 0, _, _, _, _, _, _, _ => al_none
  | n + 1, v5, v6, h, p0, p1, e, V => by
    rw [l_X6_chance_36, h2]
    have C : SC 43 Y y st h := C0.keep isZ43 (fun b k hb => V b k (by omega))
    have t := inc1 (v := v6) (by omega)
    have en : (v6 + 1).toInt.toNat = v6.toInt.toNat + 1 := by omega
    have ev : v6 = Int32.ofNat v6.toInt.toNat := i32_of (by omega)
    have cl := cntB_le (f := abS Y y st v1 v3.toInt) v6.toInt.toNat
    refine al_ite (fun c => al_oI (fun r g hr => ?_)) (fun c => Kk v5 h (by rw [e, show v6.toInt.toNat = m by omega]) V)
    obtain ⟨x1, x2⟩ := friendsDrawn_ok R W (v2 := 3) (m := 3) (by decide) (by omega) C (r, g) hr
    simp only at x1 x2
    rw [ev] at x1
    refine al_ite (fun z => chance_36 R W h2 hm C0 Kk n _ (v6 + 1) g (by omega) (by omega) ?_ (x2.trans V)) (fun z => chance_36 R W h2 hm C0 Kk n _ (v6 + 1) g (by omega) (by omega) ?_ (x2.trans V))
    · rw [en, cntB, if_neg (by unfold abS; rw [decide_eq_true_eq, ← x1]; exact fun w => w z)]; exact e
    · rw [en, cntB, if_pos (by unfold abS; rw [decide_eq_true_eq, ← x1]; exact z), inc1 (by omega), e]; rfl
theorem mchance_45 {Y : zY} {y : Int32} {st : zT2} {v1 v2 v3 : Int32} {m : Nat} (h2 : v2.toInt = m) (hm : m < 1000) {h0 : dH} (M0 : SM Y y st h0) (n0 : mNo h0) {k : Int64 → dH → Option (Int64 × dH)} {P : Int64 × dH → Prop} (Kk : ∀ v g, v.toInt = (cntB (abS Y y st v1 v3.toInt) m : Int) → bFr g h0 → Al (k v g) P) : ∀ (n : Nat) (v5 : Int64) (v6 : Int32) (h : dH), 0 ≤ v6.toInt → v6.toInt ≤ m → v5.toInt = (cntB (abS Y y st v1 v3.toInt) v6.toInt.toNat : Int) → bFr h h0 → Al (l_X7_chance_45 v1 v2 v3 k n v5 v6 h) P
  | 0, _, _, _, _, _, _, _ => al_none
  | n + 1, v5, v6, h, p0, p1, e, V => by
    rw [l_X7_chance_45, h2]
    have t := inc1 (v := v6) (by omega)
    have en : (v6 + 1).toInt.toNat = v6.toInt.toNat + 1 := by omega
    have ev : v6 = Int32.ofNat v6.toInt.toNat := i32_of (by omega)
    have cl := cntB_le (f := abS Y y st v1 v3.toInt) v6.toInt.toNat
    refine al_ite (fun c => al_oI (fun r g hr => ?_)) (fun c => Kk v5 h (by rw [e, show v6.toInt.toNat = m by omega]) V)
    obtain ⟨x1, x2⟩ := friendsBy_ok (v2 := 3) (m := 3) (by decide) (by omega) (M0.b V) (mNo.b V n0) (r, g) hr
    simp only at x1 x2
    rw [ev] at x1
    refine al_ite (fun z => mchance_45 h2 hm M0 n0 Kk n _ (v6 + 1) g (by omega) (by omega) ?_ (x2.trans V)) (fun z => mchance_45 h2 hm M0 n0 Kk n _ (v6 + 1) g (by omega) (by omega) ?_ (x2.trans V))
    · have a0 : (v5 + 0).toInt = v5.toInt + 0 := l_add rfl L0 (by omega) (by omega)
      rw [a0, en, cntB, if_neg (by unfold abS; rw [decide_eq_true_eq, ← x1]; exact fun w => w z), e]; omega
    · have a1 : (v5 + 1).toInt = v5.toInt + 1 := l_add rfl L1 (by omega) (by omega)
      rw [a1, en, cntB, if_pos (by unfold abS; rw [decide_eq_true_eq, ← x1]; exact z), e]; rfl
def lG : Nat → Int64 → Int64 → Option Int64
  | 0, _, _ => none
  | n + 1, v7, v9 => if (dlcmp v9 0).toInt = 0 then some v7 else (if ¬ v9 = 0 then lG n v9 (v7 - v7 / v9 * v9) else none)
theorem lG_ok (K : Int64 → Option (Int64 × dH)) : ∀ n v7 v9, l_X7_chance_88 K n v7 v9 = (match lG n v7 v9 with
  | none => none
  | some v => K v)
  | 0, _, _ => rfl
  | n + 1, v7, v9 => by
    rw [l_X7_chance_88, lG]
    by_cases c : (dlcmp v9 0).toInt = 0
    · rw [if_pos c, if_pos c]
    · rw [if_neg c, if_neg c]
      by_cases d : ¬ v9 = 0
      · rw [if_pos d, if_pos d]; exact lG_ok K n _ _
      · rw [if_neg d, if_neg d]
theorem gcd6 : ∀ a b : Fin 21, ¬ b.val = 0 → f_X6_commonDivisor (Int32.ofNat a.val) (Int32.ofNat b.val) = some (Int32.ofNat (Nat.gcd a.val b.val)) := by decide +kernel
theorem gcd7 : ∀ a b : Fin 21, ¬ b.val = 0 → lG fuel0 (Int64.ofNat a.val) (Int64.ofNat b.val) = some (Int64.ofNat (Nat.gcd a.val b.val)) := by decide +kernel
theorem gcdQ : ∀ a b : Fin 21, ¬ b.val = 0 → (Int32.ofNat a.val / Int32.ofNat (Nat.gcd a.val b.val)).toInt64 = Int64.ofNat a.val / Int64.ofNat (Nat.gcd a.val b.val) ∧ (Int32.ofNat b.val / Int32.ofNat (Nat.gcd a.val b.val)).toInt64 = Int64.ofNat b.val / Int64.ofNat (Nat.gcd a.val b.val) ∧ (Int32.ofNat b.val).toInt64 = Int64.ofNat b.val := by decide +kernel
theorem i64_of {v : Int64} {p : Nat} (h : v.toInt = p) (hp : p < 1000) : v = Int64.ofNat p := by
  apply Int64.toInt_inj.mp
  rw [h, Int64.toInt_ofNat_of_lt (by omega)]
def Op2L (t u : Option (Int64 × dH)) : Prop := Al t (fun o => Al u (fun o2 => o.1 = o2.1 ∧ RR o.2 o2.2))
theorem op_chance {hC hM : dH} (q : RR hC hM) (v1 v2 v3 v4 : Int32) : Op2L (f_X6_chance v1 v2 v3 v4 hC) (f_X7_chance v1 v2 v3 v4 hM) := by
  obtain ⟨C, M, W, R, T⟩ := q.st
  have l0 := L0
  have l1 := L1
  have l20 := L20
  have l28 := L28
  unfold Op2L f_X6_chance
  have ref : (¬ (1 ≤ v2.toInt ∧ v2.toInt ≤ 20) ∨ ¬ (0 ≤ v3.toInt ∧ v3.toInt ≤ 28) ∨ ¬ (v4.toInt = 0 ∨ v4.toInt = 1)) → Al (some ((-4611686018427387904 : Int64), hC)) (fun o => Al (f_X7_chance v1 v2 v3 v4 hM) (fun o2 => o.1 = o2.1 ∧ RR o.2 o2.2)) := by
    intro w
    refine al_some (al_in (fun r qr => al_ite (fun _ => al_some ⟨rfl, q⟩) (fun z => al_in (fun r2 q2 => al_ite (fun _ => al_some ⟨rfl, q⟩) (fun z => al_in (fun r3 q3 => al_ite (fun _ => al_some ⟨rfl, q⟩) (fun z => by omega)))))))
  refine al_ite (fun c => ref (by omega)) (fun c => al_ite (fun d => ref (by omega)) (fun d => al_oP (fun r5 h5 => ?_)))
  have q5 := friends6 r5 h5
  refine al_ite (fun e => ref (by omega)) (fun e => al_oP (fun r8 h8 => ?_))
  have q8 := either6 r8 h8
  refine al_ite (fun e => ref (by omega)) (fun e2 => ?_)
  have hm : v2.toInt = (v2.toInt.toNat : Int) := by omega
  obtain ⟨A, hA⟩ : ∃ A, cntB (abS (yOf 43 hC) (hC 43 0) (stOf 43 hC) v1 v3.toInt) v2.toInt.toNat = A := ⟨_, rfl⟩
  have cl := cntB_le (f := abS (yOf 43 hC) (hC 43 0) (stOf 43 hC) v1 v3.toInt) v2.toInt.toNat
  refine chance_36 R W hm (by omega) C (fun v g hv V => ?_) fuel0 0 0 hC (by decide) (by rw [ti0]; omega) (by rw [ti0]; rfl) (cV.refl _)
  rw [hA] at hv
  have ev := i32_of hv
  have eb := i32_of hm
  have g6 := gcd6 ⟨A, by omega⟩ ⟨v2.toInt.toNat, by omega⟩ (by simp only; omega)
  have g7 := gcd7 ⟨A, by omega⟩ ⟨v2.toInt.toNat, by omega⟩ (by simp only; omega)
  obtain ⟨gq1, gq2, gq3⟩ := gcdQ ⟨A, by omega⟩ ⟨v2.toInt.toNat, by omega⟩ (by simp only; omega)
  simp only at g6 g7 gq1 gq2 gq3
  rw [← ev, ← eb] at g6
  rw [g6, oP_some]
  have mm : ∀ (x : Int64), x = (if v4.toInt = 0 then Int64.ofNat A / Int64.ofNat (Nat.gcd A v2.toInt.toNat) else Int64.ofNat v2.toInt.toNat / Int64.ofNat (Nat.gcd A v2.toInt.toNat)) → Al (f_X7_chance v1 v2 v3 v4 hM) (fun o2 => x = o2.1 ∧ RR g o2.2) := by
    intro x hx
    refine al_in (fun r qr => al_ite (fun z => by omega) (fun z => al_in (fun r2 q2 => al_ite (fun z => by omega) (fun z => al_in (fun r3 q3 => al_ite (fun z => by omega) (fun z => ?_))))))
    refine mchance_45 hm (by omega) M q.2.2.2.2.2 (fun w gm hw F => ?_) fuel0 0 0 hM (by decide) (by rw [ti0]; omega) (by rw [ti0, L0]; rfl) (bFr.refl _)
    rw [hA] at hw
    have ew := i64_of hw (by omega)
    rw [lG_ok, ew, show v2.toInt64 = Int64.ofNat v2.toInt.toNat by rw [← gq3, ← eb], g7]
    simp only
    have kk := q.keep V F
    refine al_ite (fun z => al_ite (fun _ => al_some ⟨?_, kk⟩) (fun _ => al_none)) (fun z => al_ite (fun _ => al_some ⟨?_, kk⟩) (fun _ => al_none))
    · rw [hx, if_pos z]
    · rw [hx, if_neg z]
  refine al_ite (fun z => al_ite (fun _ => al_some (mm _ ?_)) (fun _ => al_none)) (fun z => al_ite (fun _ => al_some (mm _ ?_)) (fun _ => al_none))
  · rw [if_pos z, ← gq1, ← ev]
  · rw [if_neg z, ← gq2, ← eb]
end
end

section
/-! all parted in two -/
noncomputable section
/-- tables told apart alike -/
def simT (N : Nat) (t u : Nat → Int32) : Prop := ∀ i j, i < N → j < N → ((t i).toInt = -1 ↔ (u i).toInt = -1) ∧ ((t i).toInt = (t j).toInt ↔ (u i).toInt = (u j).toInt)
theorem fIn_congr {σ : Type} {F G : Nat → Nat → σ → σ} {i N : Nat} (h : ∀ j s, i < j → j < N → F i j s = G i j s) : ∀ j s, j ≤ N → fIn F i j s = fIn G i j s
  | 0, _, _ => rfl
  | j + 1, s, hj => by
    rw [fIn, fIn, fIn_congr h j s (by omega)]
    by_cases c : i < j
    · rw [if_pos c, if_pos c, h j _ c (by omega)]
    · rw [if_neg c, if_neg c]
theorem fOut_congr {σ : Type} {F G : Nat → Nat → σ → σ} {N : Nat} (h : ∀ i j s, i < j → j < N → F i j s = G i j s) : ∀ i s, i ≤ N → fOut F N i s = fOut G N i s
  | 0, _, _ => rfl
  | i + 1, s, hi => by
    rw [fOut, fOut, fOut_congr h i s (by omega), fIn_congr (fun j s h1 h2 => h i j s h1 h2) N _ (Nat.le_refl _)]
section SI
variable {Y : zY} {t u : Nat → Int32}
theorem seats_sim (h : simT (yN Y) t u) {i : Nat} (hi : i < yN Y) : seatsS (yU Y t) i = seatsS (yU Y u) i := by
  unfold seatsS
  show (if (t i).toInt = -1 then 0 else cnt32 (fun k => decide ((t k).toInt = (t i).toInt)) (yN Y)) = (if (u i).toInt = -1 then 0 else cnt32 (fun k => decide ((u k).toInt = (u i).toInt)) (yN Y))
  have h1 := (h i i hi hi).1
  by_cases c : (t i).toInt = -1
  · rw [if_pos c, if_pos (h1.mp c)]
  · rw [if_neg c, if_neg (fun z => c (h1.mpr z))]
    exact cnt32_congr _ (fun k hk => by rw [decide_eq_decide]; exact (h k i hk hi).2)
theorem nm_k {y : Int32} {st : zT2} {i j k : Nat} (hk : ¬ k = 3) : nmS (yU Y t) y st i j k = nmS Y y st i j k := by
  unfold nmS
  split <;> first | rfl | omega
theorem nm_sim (h : simT (yN Y) t u) {y : Int32} {st : zT2} {i j : Nat} (hi : i < yN Y) : nmS (yU Y t) y st i j = nmS (yU Y u) y st i j := by
  funext k
  by_cases e : k = 3
  · rw [e]; exact seats_sim h hi
  · rw [nm_k e, nm_k e]
theorem mt_sim (h : simT (yN Y) t u) {y : Int32} {st : zT2} {i j : Nat} (hi : i < yN Y) : mtS (yU Y t) y st i j = mtS (yU Y u) y st i j := by
  unfold mtS
  rw [nm_sim h hi]
  rfl
theorem fd_sim (h : simT (yN Y) t u) {y : Int32} {st : zT2} {i j : Nat} (hi : i < yN Y) : fdS (yU Y t) y st i j = fdS (yU Y u) y st i j := by
  unfold fdS
  rw [nm_sim h hi]
  rfl
theorem fs_sim (h : simT (yN Y) t u) {y : Int32} {st : zT2} {i j : Nat} (hi : i < yN Y) (hj : j < yN Y) : fsStep (yU Y t) y i j st = fsStep (yU Y u) y i j st := by
  unfold fsStep
  rw [mt_sim h hi, mt_sim h hj]
  show (if (t i).toInt = -1 then st else if (t i).toInt = (t j).toInt then _ else st) = (if (u i).toInt = -1 then st else if (u i).toInt = (u j).toInt then _ else st)
  obtain ⟨h1, h2⟩ := h i j hi hj
  by_cases c : (t i).toInt = -1
  · rw [if_pos c, if_pos (h1.mp c)]
  · rw [if_neg c, if_neg (fun z => c (h1.mpr z))]
    by_cases d : (t i).toInt = (t j).toInt
    · rw [if_pos d, if_pos (h2.mp d)]
    · rw [if_neg d, if_neg (fun z => d (h2.mpr z))]
theorem yr_sim (h : simT (yN Y) t u) {y : Int32} {st : zT2} {i j : Nat} (hi : i < yN Y) (hj : j < yN Y) : yrStep (yU Y t) y i j st = yrStep (yU Y u) y i j st := by
  unfold yrStep
  rw [fd_sim h hi, fd_sim h hj]
theorem live_sim (h : simT (yN Y) t u) {y : Int32} {st : zT2} : ∀ n, liveS (yU Y t) y st n = liveS (yU Y u) y st n
  | 0 => rfl
  | n + 1 => by
    have ih := live_sim h (y := y) (st := st) n
    have f1 : ∀ y st, feastS (yU Y t) y st = feastS (yU Y u) y st := fun y st => fOut_congr (N := yN Y) (fun i j s h1 h2 => fs_sim h (by omega) h2) _ _ (Nat.le_refl _)
    have f2 : ∀ y st, fadeS (yU Y t) y st = fadeS (yU Y u) y st := fun y st => fOut_congr (N := yN Y) (fun i j s h1 h2 => yr_sim h (by omega) h2) _ _ (Nat.le_refl _)
    rw [liveS, liveS, ih, f1, f2]
theorem fr_sim (h : simT (yN Y) t u) {y : Int32} {st : zT2} {n : Nat} : frN (yU Y t) y st n = frN (yU Y u) y st n := by
  unfold frN
  rw [live_sim h]
  rfl
end SI
/-- tables by bits -/
def tbB (x : Int32) (k : Nat) : Int32 := (dshr x (Int32.ofNat k)) &&& 1
theorem tbB_v {x : Int32} {k : Nat} (hk : k < 8) : (tbB x k).toInt = if bt x k = true then 1 else 0 := by
  have hv : (Int32.ofNat k).toInt = k := Int32.toInt_ofNat_of_lt (by omega)
  unfold tbB
  have e := bt_test (x := x) hv hk
  by_cases c : bt x k = true
  · rw [if_pos c]; exact e.mpr c
  · rw [if_neg c]
    have o : ∀ y : Int32, (y &&& 1).toInt = 1 ∨ (y &&& 1).toInt = 0 := by
      intro y
      have e2 : (y &&& 1).toBitVec = BitVec.setWidth 32 (BitVec.ofBool (y.toBitVec.getLsbD 0)) := by
        show y.toBitVec &&& 1#32 = _
        exact BitVec.and_one_eq_setWidth_ofBool_getLsbD
      have t : (y &&& 1).toInt = (y &&& 1).toBitVec.toInt := rfl
      rw [t, e2]
      cases y.toBitVec.getLsbD 0
      · right; decide
      · left; decide
    rcases o (dshr x (Int32.ofNat k)) with q | q
    · exact absurd (e.mp q) c
    · exact q
theorem bt_nat {b k : Nat} (hk : k < 32) : bt (Int32.ofNat b) k = b.testBit k := by
  show (BitVec.ofNat 32 b).getLsbD k = _
  rw [BitVec.getLsbD_ofNat, decide_eq_true hk, Bool.true_and]
/-- mirrored bits: the same parting -/
theorem tb_mirror {N b : Nat} (hN : N ≤ 8) (hb : b < 2 ^ N) : simT N (tbB (Int32.ofNat b)) (tbB (Int32.ofNat (2 ^ N - (b + 1)))) := by
  intro i j hi hj
  have v : ∀ k, k < N → (tbB (Int32.ofNat b) k).toInt = (if b.testBit k = true then 1 else 0) ∧ (tbB (Int32.ofNat (2 ^ N - (b + 1))) k).toInt = (if b.testBit k = true then 0 else 1) := by
    intro k hk
    rw [tbB_v (by omega), tbB_v (by omega), bt_nat (by omega), bt_nat (by omega), Nat.testBit_two_pow_sub_succ hb, decide_eq_true hk, Bool.true_and]
    refine ⟨rfl, ?_⟩
    cases b.testBit k <;> rfl
  obtain ⟨a1, a2⟩ := v i hi
  obtain ⟨b1, b2⟩ := v j hj
  rw [a1, a2, b1, b2]
  cases b.testBit i <;> cases b.testBit j <;> decide
/-! the first of the best, of more -/
theorem fb_bound {f : Nat → Int32} {b : Int32 × Int32} : ∀ M t, t < M → (f t).toInt ≤ (fbS f b M).2.toInt
  | 0, t, h => absurd h (by omega)
  | M + 1, t, h => by
    rw [fbS]
    by_cases c : (fbS f b M).2.toInt < (f M).toInt
    · rw [if_pos c]
      by_cases e : t = M
      · rw [e]; exact Int.le_refl _
      · have := fb_bound (f := f) (b := b) M t (by omega)
        show (f t).toInt ≤ (f M).toInt
        omega
    · rw [if_neg c]
      by_cases e : t = M
      · rw [e]; omega
      · exact fb_bound M t (by omega)
theorem fb_more {f : Nat → Int32} {b : Int32 × Int32} {M : Nat} : ∀ d, (∀ t, M ≤ t → t < M + d → ∃ s, s < M ∧ f t = f s) → fbS f b (M + d) = fbS f b M
  | 0, _ => rfl
  | d + 1, h => by
    have ih := fb_more (f := f) (b := b) (M := M) d (fun t h1 h2 => h t h1 (by omega))
    obtain ⟨s, hs, e⟩ := h (M + d) (by omega) (by omega)
    have := fb_bound (f := f) (b := b) M s hs
    show fbS f b ((M + d) + 1) = _
    rw [fbS, ih, if_neg (by rw [e]; omega)]
def spS (Y : zY) (y : Int32) (st : zT2) (m t : Nat) : Int32 := frN (yU Y (tbB (Int32.ofNat t))) y st m
theorem sp_half {Y : zY} {y : Int32} {st : zT2} {m : Nat} (hN : yN Y ≤ 8) (h0 : 0 < yN Y) {b : Int32 × Int32} : fbS (spS Y y st m) b (2 ^ yN Y) = fbS (spS Y y st m) b (2 ^ (yN Y - 1)) := by
  have e : 2 ^ yN Y = 2 ^ (yN Y - 1) + 2 ^ (yN Y - 1) := by
    obtain ⟨n, hn⟩ : ∃ n, yN Y = n + 1 := ⟨yN Y - 1, by omega⟩
    rw [hn, Nat.pow_succ, Nat.add_sub_cancel]; omega
  rw [e]
  refine fb_more _ (fun t h1 h2 => ⟨2 ^ yN Y - (t + 1), by rw [e]; omega, ?_⟩)
  unfold spS
  exact fr_sim (tb_mirror hN (by rw [e]; omega))
theorem shl_pow {v : Int32} {n : Nat} (hv : v.toInt = n) (hn : n ≤ 8) : (dshl 1 v).toInt = (2 ^ n : Nat) := by
  rw [i32_of hv]
  have h : ∀ j : Fin 9, (dshl 1 (Int32.ofNat j.val)).toInt = (2 ^ j.val : Nat) := by decide +kernel
  exact h ⟨n, by omega⟩
/-! the class -/
theorem split_75 {N : Nat} (hN8 : N ≤ 8) {x : Int32} {h0 : dH} (hN : (h0 43 2).toInt = N) {k : dH → Option (Int32 × dH)} {P : Int32 × dH → Prop} (Kk : ∀ g, (∀ b j, ¬ b = 60 → g b j = h0 b j) → (∀ j, j < N → g 60 j = tbB x j) → Al (k g) P) : ∀ (n : Nat) (v7 : Int32) (h : dH), 0 ≤ v7.toInt → v7.toInt ≤ N → (∀ b j, ¬ b = 60 → h b j = h0 b j) → (∀ j, j < v7.toInt.toNat → h 60 j = tbB x j) → Al (l_X6_split_75 x k n v7 h) P
  | 0, _, _, _, _, _, _ => al_none
  | n + 1, v7, h, p0, p1, F, T => by
    rw [l_X6_split_75, F 43 2 (by omega), hN]
    have t := inc1 (v := v7) (by omega)
    have en : (v7 + 1).toInt.toNat = v7.toInt.toNat + 1 := by omega
    refine al_ite (fun c => al_ite (fun _ => al_oH' (fun g hg => split_75 hN8 hN Kk n (v7 + 1) g (by omega) (by omega) (fun b j q => by rw [hg, dU_ne (by omega)]; exact F b j q) (fun j hj => ?_))) (fun _ => al_none)) (fun c => Kk h F (fun j hj => T j (by omega)))
    by_cases ej : j = v7.toInt.toNat
    · rw [ej, hg]
      show dU h 60 _ _ 60 _ = _
      rw [dU_eq]
      unfold tbB
      rw [← i32_of (v := v7) (by omega)]
    · rw [hg]
      show dU h 60 _ _ 60 _ = _
      rw [dU_ne (by omega)]
      exact T j (by omega)
theorem split_54 {Y : zY} (R : Yr Y) {y : Int32} {st : zT2} (W : Wf (yN Y) st) {v1 v5 : Int32} {m M : Nat} (h1 : v1.toInt = m) (hm : m < 1000) (h5 : v5.toInt = M) (hM : M ≤ 256) {h0 : dH} (C0 : SC 43 Y y st h0) {k : Int32 → Int32 → dH → Option (Int32 × dH)} {P : Int32 × dH → Prop} (Kk : ∀ g, cV g h0 → Al (k (fbS (spS Y y st m) (0, -1) M).1 (fbS (spS Y y st m) (0, -1) M).2 g) P) : ∀ (n : Nat) (v3 v4 v6 : Int32) (h : dH), 0 ≤ v6.toInt → v6.toInt ≤ M → v3 = (fbS (spS Y y st m) (0, -1) v6.toInt.toNat).1 → v4 = (fbS (spS Y y st m) (0, -1) v6.toInt.toNat).2 → cV h h0 → Al (l_X6_split_54 v1 v5 k n v3 v4 v6 h) P
  | 0, _, _, _, _, _, _, _, _, _ => al_none
  | n + 1, v3, v4, v6, h, p0, p1, e3, e4, V => by
    have hN8 := C0.2.2.2.1
    have C : SC 43 Y y st h := C0.keep isZ43 (fun b k hb => V b k (by omega))
    rw [l_X6_split_54, h5]
    have t := inc1 (v := v6) (by omega)
    have en : (v6 + 1).toInt.toNat = v6.toInt.toNat + 1 := by omega
    have e6 : v6 = Int32.ofNat v6.toInt.toNat := i32_of (by omega)
    refine al_ite (fun c => al_oV' (fun g12 h12 => ?_)) (fun c => ?_)
    · have b := become_ok isZ57 isZ43 (by decide) h g12 h12
      have C1 := b.sc isZ57 isZ43 C
      have C43 : SC 43 Y y st g12 := C.keep isZ43 (fun b' k hb => b.v b' k (by omega))
      refine split_75 (N := yN Y) hN8 (x := v6) (h0 := g12) C43.2.2.1 (fun g F T => al_oI (fun r g20 hr => ?_)) _ 0 g12 (by decide) (by rw [ti0]; omega) (fun _ _ _ => rfl) (fun j hj => absurd hj (by rw [ti0]; exact Nat.not_lt_zero j))
      obtain ⟨x1, x2⟩ := pass_u R W h1 hm hN8 (C1.tab isZ57 (tb := tbB v6) F T) hr
      have vg : cV g20 h0 := x2.trans ((show cV g g12 from fun a k x => F a k (by omega)).trans (b.v.trans V))
      have x1' : r = spS Y y st m v6.toInt.toNat := by
        rw [x1]
        unfold spS
        rw [← e6]
      refine al_ite (fun z => split_54 R W h1 hm h5 hM C0 Kk n _ _ (v6 + 1) g20 (by omega) (by omega) ?_ ?_ vg) (fun z => split_54 R W h1 hm h5 hM C0 Kk n _ _ (v6 + 1) g20 (by omega) (by omega) ?_ ?_ vg)
      · rw [en, fbS, if_pos (by rw [← e4, ← x1']; exact z)]; exact e6
      · rw [en, fbS, if_pos (by rw [← e4, ← x1']; exact z)]; exact x1'
      · rw [en, fbS, if_neg (by rw [← e4, ← x1']; exact z)]; exact e3
      · rw [en, fbS, if_neg (by rw [← e4, ← x1']; exact z)]; exact e4
    · rw [show v6.toInt.toNat = M by omega] at e3 e4
      rw [e3, e4]
      exact Kk h V
/-! the reference -/
theorem msplit_51 {N : Nat} (hN8 : N ≤ 8) {x : Int32} {h0 : dH} (hN : (h0 0 13).toInt = N) {k : dH → Option (Int32 × dH)} {P : Int32 × dH → Prop} (Kk : ∀ g, (∀ b j, ¬ (b = 6 ∧ j < N) → g b j = h0 b j) → (∀ j, j < N → g 6 j = tbB x j) → Al (k g) P) : ∀ (n : Nat) (v7 : Int32) (h : dH), 0 ≤ v7.toInt → v7.toInt ≤ N → (∀ b j, ¬ (b = 6 ∧ j < N) → h b j = h0 b j) → (∀ j, j < v7.toInt.toNat → h 6 j = tbB x j) → Al (l_X7_split_51 x k n v7 h) P
  | 0, _, _, _, _, _, _ => al_none
  | n + 1, v7, h, p0, p1, F, T => by
    rw [l_X7_split_51, F 0 13 (by omega), hN]
    have t := inc1 (v := v7) (by omega)
    have en : (v7 + 1).toInt.toNat = v7.toInt.toNat + 1 := by omega
    refine al_ite (fun c => al_ite (fun _ => al_oH' (fun g hg => msplit_51 hN8 hN Kk n (v7 + 1) g (by omega) (by omega) (fun b j q => by rw [hg, dU_ne (by omega)]; exact F b j q) (fun j hj => ?_))) (fun _ => al_none)) (fun c => Kk h F (fun j hj => T j (by omega)))
    by_cases ej : j = v7.toInt.toNat
    · rw [ej, hg, dU_eq]
      unfold tbB
      rw [← i32_of (v := v7) (by omega)]
    · rw [hg, dU_ne (by omega)]
      exact T j (by omega)
/-- all but what it scribbles (not the tables aside), and tables -/
def uFr (N : Nat) (g h : dH) : Prop := (∀ a k, ¬ (a = 0 ∧ 14 ≤ k ∧ k ≤ 28) → ¬ (a = 0 ∧ k = 34) → ¬ (8 ≤ a ∧ a ≤ 9) → ¬ (a = 7 ∧ 64 ≤ k) → ¬ (a = 6 ∧ k < N) → g a k = h a k)
theorem uFr.t {N : Nat} {g h : dH} (q : uFr N g h) : tFr g h := fun a k x y z w v => q a k x y (by omega) w (by omega)
theorem msplit_37 {Y : zY} {y : Int32} {st : zT2} {v1 : Int32} {m : Nat} (h1 : v1.toInt = m) (hm : m < 1000) {h0 : dH} (M0 : SM Y y st h0) (n0 : mNo h0) {k : Int32 → Int32 → dH → Option (Int32 × dH)} {P : Int32 × dH → Prop} (Kk : ∀ g, uFr (yN Y) g h0 → Al (k (fbS (spS Y y st m) (0, -1) (2 ^ yN Y)).1 (fbS (spS Y y st m) (0, -1) (2 ^ yN Y)).2 g) P) : ∀ (n : Nat) (v3 v4 v5 : Int32) (h : dH), 0 ≤ v5.toInt → v5.toInt ≤ (2 ^ yN Y : Nat) → v3 = (fbS (spS Y y st m) (0, -1) v5.toInt.toNat).1 → v4 = (fbS (spS Y y st m) (0, -1) v5.toInt.toNat).2 → uFr (yN Y) h h0 → Al (l_X7_split_37 v1 k n v3 v4 v5 h) P
  | 0, _, _, _, _, _, _, _, _, _ => al_none
  | n + 1, v3, v4, v5, h, p0, p1, e3, e4, V => by
    have hN8 := M0.2.2.2.1
    have p256 : (2 : Nat) ^ yN Y ≤ 256 := Nat.pow_le_pow_right (n := 2) (by omega) hN8
    have eN : (h 0 13).toInt = yN Y := by rw [V 0 13 (by omega) (by omega) (by omega) (by omega) (by omega)]; exact M0.2.2.1
    rw [l_X7_split_37, shl_pow eN hN8]
    have t := inc1 (v := v5) (by omega)
    have en : (v5 + 1).toInt.toNat = v5.toInt.toNat + 1 := by omega
    have e5 : v5 = Int32.ofNat v5.toInt.toNat := i32_of (by omega)
    refine al_ite (fun c => ?_) (fun c => ?_)
    · refine msplit_51 (N := yN Y) hN8 (x := v5) (h0 := h) eN (fun g F T => al_oI (fun r g20 hr => ?_)) _ 0 h (by decide) (by rw [ti0]; omega) (fun _ _ _ => rfl) (fun j hj => absurd hj (by rw [ti0]; exact Nat.not_lt_zero j))
      have Fg : uFr (yN Y) g h0 := fun a k x1 x2 x3 x4 x5 => by rw [F a k x5]; exact V a k x1 x2 x3 x4 x5
      obtain ⟨x1, x2, x3, x4⟩ := behind_u h1 hm M0 Fg.t T n0 hr
      have vg : uFr (yN Y) g20 h0 := fun a k y1 y2 y3 y4 y5 => by
        by_cases c10 : a = 10
        · rw [c10, x3]; exact Fg 10 k (by omega) (by omega) (by omega) (by omega) (by omega)
        · rw [x2 a k y1 y2 (by omega) y4]; exact Fg a k y1 y2 y3 y4 y5
      have x1' : r = spS Y y st m v5.toInt.toNat := by
        rw [x1]
        unfold spS
        rw [← e5]
      refine al_ite (fun z => msplit_37 h1 hm M0 n0 Kk n _ _ (v5 + 1) g20 (by omega) (by omega) ?_ ?_ vg) (fun z => msplit_37 h1 hm M0 n0 Kk n _ _ (v5 + 1) g20 (by omega) (by omega) ?_ ?_ vg)
      · rw [en, fbS, if_pos (by rw [← e4, ← x1']; exact z)]; exact e5
      · rw [en, fbS, if_pos (by rw [← e4, ← x1']; exact z)]; exact x1'
      · rw [en, fbS, if_neg (by rw [← e4, ← x1']; exact z)]; exact e3
      · rw [en, fbS, if_neg (by rw [← e4, ← x1']; exact z)]; exact e4
    · rw [show v5.toInt.toNat = 2 ^ yN Y by omega] at e3 e4
      rw [e3, e4]
      exact Kk h V
theorem op_split {hC hM : dH} (q : RR hC hM) (v1 v2 : Int32) : Op2 (f_X6_split v1 v2 hC) (f_X7_split v1 v2 hM) := by
  obtain ⟨C, M, W, R, T⟩ := q.st
  have l0 := L0
  have l1 := L1
  have l2 := L2
  have hN8 := C.2.2.2.1
  unfold Op2 f_X6_split
  have ref : (¬ (0 ≤ v1.toInt ∧ v1.toInt ≤ 2) ∨ ¬ (v2.toInt = 0 ∨ v2.toInt = 1)) → Al (some ((-2 : Int32), hC)) (fun o => Al (f_X7_split v1 v2 hM) (fun o2 => o.1 = o2.1 ∧ RR o.2 o2.2)) := by
    intro w
    refine al_some (al_in (fun r qr => al_ite (fun _ => al_some ⟨rfl, q⟩) (fun z => al_in (fun r2 q2 => al_ite (fun _ => al_some ⟨rfl, q⟩) (fun z => by omega)))))
  refine al_ite (fun d => ref (by omega)) (fun d => al_ite (fun d2 => ref (by omega)) (fun d2 => al_oP (fun r3 h3 => ?_)))
  have q3 := either6 r3 h3
  have hv : v1.toInt = (v1.toInt.toNat : Int) := by omega
  refine al_ite (fun e => ref (by omega)) (fun e => ?_)
  have fin : ∀ (g : dH), cV g hC → Al (if v2.toInt = 0 then (some ((fbS (spS (yOf 43 hC) (hC 43 0) (stOf 43 hC) v1.toInt.toNat) (0, -1) (2 ^ yN (yOf 43 hC))).1, g)) else (some ((fbS (spS (yOf 43 hC) (hC 43 0) (stOf 43 hC) v1.toInt.toNat) (0, -1) (2 ^ yN (yOf 43 hC))).2, g))) (fun o => Al (f_X7_split v1 v2 hM) (fun o2 => o.1 = o2.1 ∧ RR o.2 o2.2)) := by
    intro g V
    have mm : ∀ (x : Int32), x = (if v2.toInt = 0 then (fbS (spS (yOf 43 hC) (hC 43 0) (stOf 43 hC) v1.toInt.toNat) (0, -1) (2 ^ yN (yOf 43 hC))).1 else (fbS (spS (yOf 43 hC) (hC 43 0) (stOf 43 hC) v1.toInt.toNat) (0, -1) (2 ^ yN (yOf 43 hC))).2) → Al (f_X7_split v1 v2 hM) (fun o2 => x = o2.1 ∧ RR g o2.2) := by
      intro x hx
      refine al_in (fun r qr => al_ite (fun z => by omega) (fun z => al_in (fun r2 q2 => al_ite (fun z => by omega) (fun z => al_oV' (fun m7 h7 => ?_)))))
      have q1 := clears_ok hN8 M.2.2.1 m7 h7
      have M7 : SM (yOf 43 hC) (hC 43 0) (stOf 43 hC) m7 := M.b (fun a k _ _ z _ => q1.2 a k (by omega))
      have n7 : mNo m7 := mNo.b (fun a k _ _ z _ => q1.2 a k (by omega)) q.2.2.2.2.2
      refine msplit_37 hv (by omega) M7 n7 (fun gm F => al_oV' (fun g25 h25 => ?_)) fuel0 0 (-1) 0 m7 (by decide) (by rw [ti0]; exact Int.natCast_nonneg _) (by rw [ti0]; rfl) (by rw [ti0]; rfl) (fun _ _ _ _ _ _ _ => rfl)
      have eN : (gm 0 13).toInt = yN (yOf 43 hC) := by rw [F 0 13 (by omega) (by omega) (by omega) (by omega) (by omega)]; exact M7.2.2.1
      have s := sits_ok hN8 eN g25 h25
      have FF : bFr g25 hM := fun a k x1 x2 x3 x4 => by
        by_cases c : a = 6 ∧ k < yN (yOf 43 hC)
        · obtain ⟨rfl, hk⟩ := c
          rw [s.1 k hk, F 10 k (by omega) (by omega) (by omega) (by omega) (by omega), q1.1 k hk]
        · rw [s.2 a k c, F a k x1 x2 (by omega) x4 c, q1.2 a k (by omega)]
      have kk := q.keep V FF
      refine al_ite (fun z => al_some ⟨?_, kk⟩) (fun z => al_some ⟨?_, kk⟩)
      · rw [hx, if_pos z]
      · rw [hx, if_neg z]
    exact al_ite (fun z => al_some (mm _ (if_pos z).symm)) (fun z => al_some (mm _ (if_neg z).symm))
  have hN := C.2.2.1
  refine al_ite (fun c => ?_) (fun c => ?_)
  · have es : ((hC 43 2) - 1).toInt = ((yN (yOf 43 hC) - 1 : Nat) : Int) := by
      have := i_sub (a := hC 43 2) (b := 1) hN ti1 (by omega) (by omega)
      rw [this]; omega
    have p256 : (2 : Nat) ^ (yN (yOf 43 hC) - 1) ≤ 256 := Nat.le_trans (Nat.pow_le_pow_right (n := 2) (by omega) (show yN (yOf 43 hC) - 1 ≤ 8 by omega)) (by decide)
    refine split_54 R W hv (by omega) (M := 2 ^ (yN (yOf 43 hC) - 1)) (shl_pow es (by omega)) p256 C (fun g V => ?_) fuel0 0 (-1) 0 hC (by decide) (by rw [ti0]; exact Int.natCast_nonneg _) (by rw [ti0]; rfl) (by rw [ti0]; rfl) (cV.refl _)
    have f := fin g V
    rw [sp_half hN8 (by omega)] at f
    exact f
  · have e0 : yN (yOf 43 hC) = 0 := by omega
    refine split_54 R W hv (by omega) (M := 1) ti1 (by omega) C (fun g V => ?_) fuel0 0 (-1) 0 hC (by decide) (by decide) (by rw [ti0]; rfl) (by rw [ti0]; rfl) (cV.refl _)
    have f := fin g V
    rw [e0] at f
    exact f
end
end

section
/-! who would be missed; who brings whom together -/
noncomputable section
def memH (N h : Nat) (j : Nat) : Bool := decide (j < N) && !decide (j = h)
theorem kS_self {Y : zY} {st : zT2} {i j : Nat} (h : i = j) : knS Y st i j = false := if_pos h
theorem kS_lt {Y : zY} {st : zT2} {i j : Nat} (h : ¬ i = j) (h4 : (st i j).toInt < (yL Y).toInt) : knS Y st i j = false := (if_neg h).trans (if_pos h4)
theorem kS_ge {Y : zY} {st : zT2} {i j : Nat} (h : ¬ i = j) (h4 : ¬ (st i j).toInt < (yL Y).toInt) : knS Y st i j = true := (if_neg h).trans (if_neg h4)
theorem kMem_gone {Y : zY} {st : zT2} {h i j : Nat} (hi : i < yN Y) (hj : j < yN Y) : kMem (knS Y st) (memH (yN Y) h) i j = knM Y st (-1) (-1) (h : Int) i j := by
  unfold kMem memH
  rw [decide_eq_true hi, decide_eq_true hj, Bool.true_and, Bool.true_and]
  by_cases c : i = j
  · rw [kS_self c, kM_self c, Bool.false_and]
  · by_cases d : i = h
    · rw [kM_gi c (by omega), decide_eq_true d, Bool.not_true, Bool.false_and, Bool.and_false]
    · rw [decide_eq_false d, Bool.not_false, Bool.true_and]
      by_cases e : j = h
      · rw [kM_gj c (by omega) (by omega), decide_eq_true e, Bool.not_true, Bool.and_false]
      · rw [decide_eq_false e, Bool.not_false, Bool.and_true]
        by_cases f : (st i j).toInt < (yL Y).toInt
        · rw [kS_lt c f, kM_lt c (by omega) (by omega) f]
          exact (decide_eq_false (by omega)).symm
        · rw [kS_ge c f, kM_ge c (by omega) (by omega) f]
def goS (Y : zY) (st : zT2) (t : Nat) : Int32 := cnt32 (isFm (knM Y st (-1) (-1) (t : Int)) (yN Y) (t : Int)) (yN Y)
theorem missed_28 {Y : zY} {y : Int32} {st : zT2} {h : dH} (C : SC 43 Y y st h) (W : Wf (yN Y) st) (Q : CQ (knS Y st) (yN Y) h) {k : Int32 → Int32 → Option (Int32 × dH)} {P : Int32 × dH → Prop} (Kk : Al (k (fbS (goS Y st) (-1, -1) (yN Y)).1 (fbS (goS Y st) (-1, -1) (yN Y)).2) P) : ∀ (n : Nat) (v2 v3 v4 : Int32), 0 ≤ v4.toInt → v4.toInt ≤ yN Y → v2 = (fbS (goS Y st) (-1, -1) v4.toInt.toNat).1 → v3 = (fbS (goS Y st) (-1, -1) v4.toInt.toNat).2 → Al (l_X6_missed_28 h k n v2 v3 v4) P
  | 0, _, _, _, _, _, _, _ => al_none
  | n + 1, v2, v3, v4, p0, p1, e2, e3 => by
    have hN8 := C.2.2.2.1
    rw [l_X6_missed_28, C.2.2.1]
    have t := inc1 (v := v4) (by omega)
    obtain ⟨i, hi⟩ : ∃ i, v4.toInt.toNat = i := ⟨_, rfl⟩
    have hi' : v4.toInt = i := by omega
    have en : (v4 + 1).toInt.toNat = i + 1 := by omega
    rw [hi] at e2 e3
    refine al_ite (fun c => al_oP (fun r7 h7 => al_oP (fun r8 h8 => ?_))) (fun c => ?_)
    · have ev := everyone_ok Q r7 h7
      have hm : ∀ m, bt (r7 &&& (dshl 1 v4 ^^^ (-1))) m = memH (yN Y) i m := by
        intro m
        rw [bt_and, bt_xor, ev m, bt_one hi' (by omega)]
        unfold memH
        by_cases hm : m < yN Y
        · rw [bt_m1 (by omega), decide_eq_true hm, Bool.true_and, Bool.true_and, Bool.xor_true]
        · rw [decide_eq_false hm, Bool.false_and, Bool.false_and]
      have r := companies_ok Q (kn_sym W) hm r8 h8
      have er : r8 = goS Y st i := by
        rw [r]
        exact cnt_F (kn_sym W) (fun a ha => by unfold memH; rw [decide_eq_true ha, Bool.true_and, Bool.not_eq_true', decide_eq_false_iff_not]; omega) (fun a b ha hb => kMem_gone ha hb)
      refine al_ite (fun z => missed_28 C W Q Kk n _ _ (v4 + 1) (by omega) (by omega) ?_ ?_) (fun z => missed_28 C W Q Kk n _ _ (v4 + 1) (by omega) (by omega) ?_ ?_)
      · rw [en, fbS, if_pos (by rw [← e3, ← er]; exact z)]; exact i32_of hi'
      · rw [en, fbS, if_pos (by rw [← e3, ← er]; exact z)]; exact er
      · rw [en, fbS, if_neg (by rw [← e3, ← er]; exact z)]; exact e2
      · rw [en, fbS, if_neg (by rw [← e3, ← er]; exact z)]; exact e3
    · rw [show i = yN Y by omega] at e2 e3
      rw [e2, e3]
      exact Kk
theorem mmissed_20 {Y : zY} {y : Int32} {st : zT2} {h0 : dH} (M0 : SM Y y st h0) (n0 : mNo h0) {k : Int32 → Int32 → dH → Option (Int32 × dH)} {P : Int32 × dH → Prop} (Kk : ∀ g, bFr g h0 → Al (k (fbS (goS Y st) (-1, -1) (yN Y)).1 (fbS (goS Y st) (-1, -1) (yN Y)).2 g) P) : ∀ (n : Nat) (v2 v3 v4 : Int32) (h : dH), 0 ≤ v4.toInt → v4.toInt ≤ yN Y → v2 = (fbS (goS Y st) (-1, -1) v4.toInt.toNat).1 → v3 = (fbS (goS Y st) (-1, -1) v4.toInt.toNat).2 → bFr h h0 → Al (l_X7_missed_20 k n v2 v3 v4 h) P
  | 0, _, _, _, _, _, _, _, _, _ => al_none
  | n + 1, v2, v3, v4, h, p0, p1, e2, e3, F => by
    have hN8 := M0.2.2.2.1
    have M := M0.b F
    have n1 := mNo.b F n0
    rw [l_X7_missed_20, M.2.2.1]
    have t := inc1 (v := v4) (by omega)
    obtain ⟨i, hi⟩ : ∃ i, v4.toInt.toNat = i := ⟨_, rfl⟩
    have hi' : v4.toInt = i := by omega
    have en : (v4 + 1).toInt.toNat = i + 1 := by omega
    rw [hi] at e2 e3
    refine al_ite (fun c => al_oH' (fun g6 h6 => al_oV' (fun g7 h7 => al_oP (fun r8 h8 => al_oH' (fun g9 h9 => ?_))))) (fun c => ?_)
    · have e6 : ∀ a k, ¬ (a = 0 ∧ k = 31) → g6 a k = h a k := fun a k q => by rw [h6]; exact dU_ne q
      have M6 : SM Y y st g6 := by
        obtain ⟨a0, a1, a2, a3, a4, a5, a6⟩ := M
        exact ⟨by rw [e6 0 7 (by omega)]; exact a0, by rw [e6 0 8 (by omega)]; exact a1, by rw [e6 0 13 (by omega)]; exact a2, a3, fun j hj => by rw [e6 4 j (by omega), e6 5 j (by omega), e6 6 j (by omega)]; exact a4 j hj, fun a b ha hb => by rw [e6 7 _ (by omega)]; exact a5 a b ha hb, a6.same (fun k => e6 1 k (by omega)) (fun k => e6 2 k (by omega)) (e6 0 4 (by omega))⟩
      have K6 := M6.knm (ea := -1) (eb := -1) (gn := (i : Int)) (by rw [e6 0 29 (by omega)]; exact n1.1) (by rw [e6 0 30 (by omega)]; exact n1.2.1) (by rw [h6, dU_eq]; exact hi')
      obtain ⟨x1, x2⟩ := waysAll_ok K6 M6.2.2.1 hN8 g7 h7
      have er : r8 = goS Y st i := mcomp_ok x1 (gn := (i : Int)) (by rw [x2 0 31 (by omega), h6, dU_eq]; exact hi') r8 h8
      have F9 : bFr g9 h0 := bFr.trans (fun a k y1 y2 y3 y4 => by
        by_cases e : a = 0 ∧ k = 31
        · obtain ⟨rfl, rfl⟩ := e
          rw [h9, dU_eq]
          exact (Int32.toInt_inj.mp (n1.2.2.trans tm1.symm)).symm
        · rw [h9, dU_ne e, x2 a k (by omega), e6 a k e]) F
      refine al_ite (fun z => mmissed_20 M0 n0 Kk n _ _ (v4 + 1) g9 (by omega) (by omega) ?_ ?_ F9) (fun z => mmissed_20 M0 n0 Kk n _ _ (v4 + 1) g9 (by omega) (by omega) ?_ ?_ F9)
      · rw [en, fbS, if_pos (by rw [← e3, ← er]; exact z)]; exact i32_of hi'
      · rw [en, fbS, if_pos (by rw [← e3, ← er]; exact z)]; exact er
      · rw [en, fbS, if_neg (by rw [← e3, ← er]; exact z)]; exact e2
      · rw [en, fbS, if_neg (by rw [← e3, ← er]; exact z)]; exact e3
    · rw [show i = yN Y by omega] at e2 e3
      rw [e2, e3]
      exact Kk h F
theorem op_missed {hC hM : dH} (q : RR hC hM) (v1 : Int32) : Op2 (f_X6_missed v1 hC) (f_X7_missed v1 hM) := by
  obtain ⟨C, M, W, R, T⟩ := q.st
  have l0 := L0
  have l1 := L1
  unfold Op2 f_X6_missed
  refine al_oP (fun r3 h3 => ?_)
  have q3 := either6 r3 h3
  refine al_ite (fun d => al_some (al_in (fun r qr => al_ite (fun _ => al_some ⟨rfl, q⟩) (fun z => by omega)))) (fun d => al_oV' (fun g4 h4 => ?_))
  obtain ⟨x1, x2⟩ := see_ok isZ43 C.kn C.2.2.1 C.2.2.2.1 g4 h4
  have C4 : SC 43 (yOf 43 hC) (hC 43 0) (stOf 43 hC) g4 := C.keep isZ43 (fun b k hb => x2 b k (by omega) (by omega))
  refine missed_28 C4 W x1 ?_ fuel0 (-1) (-1) 0 (by decide) (by rw [ti0]; omega) (by rw [ti0]; rfl) (by rw [ti0]; rfl)
  have mm : ∀ (x : Int32), x = (if v1.toInt = 0 then (fbS (goS (yOf 43 hC) (stOf 43 hC)) (-1, -1) (yN (yOf 43 hC))).1 else (fbS (goS (yOf 43 hC) (stOf 43 hC)) (-1, -1) (yN (yOf 43 hC))).2) → Al (f_X7_missed v1 hM) (fun o2 => x = o2.1 ∧ RR g4 o2.2) := by
    intro x hx
    refine al_in (fun r qr => al_ite (fun z => by omega) (fun z => ?_))
    refine mmissed_20 M q.2.2.2.2.2 (fun gm F => ?_) fuel0 (-1) (-1) 0 hM (by decide) (by rw [ti0]; omega) (by rw [ti0]; rfl) (by rw [ti0]; rfl) (bFr.refl _)
    have kk := q.keep x2.v F
    refine al_ite (fun z => al_some ⟨?_, kk⟩) (fun z => al_some ⟨?_, kk⟩)
    · rw [hx, if_pos z]
    · rw [hx, if_neg z]
  exact al_ite (fun z => al_some (mm _ (if_pos z).symm)) (fun z => al_some (mm _ (if_neg z).symm))
/-! a match -/
/-- the longest way, were these two to know each other -/
def lgE (K : Nat → Nat → Bool) (N : Nat) : Int32 := Classical.epsilon (fun r : Int32 => isMx (vlS K N 9) N r.toInt)
theorem lgE_of {K : Nat → Nat → Bool} {N : Nat} {r : Int32} (h : isMx (vlS K N 9) N r.toInt) : r = lgE K N := by
  have e : isMx (vlS K N 9) N (lgE K N).toInt := Classical.epsilon_spec (p := fun r : Int32 => isMx (vlS K N 9) N r.toInt) ⟨r, h⟩
  exact Int32.toInt_inj.mp (h.uniq e)
theorem vl_congr {K L : Nat → Nat → Bool} {N : Nat} (h : ∀ i j, i < N → j < N → K i j = L i j) {w M : Int} (q : isMx (vlS K N w) N M) : isMx (vlS L N w) N M := by
  have e : ∀ i j, i < N → j < N → vlS K N w i j = vlS L N w i j := fun i j hi hj => by unfold vlS; rw [fw_congr h hi hj]
  refine ⟨fun i j h1 h2 => by rw [← e i j (by omega) h2]; exact q.1 i j h1 h2, q.2.1, ?_⟩
  rcases q.2.2 with z | ⟨i, j, h1, h2, h3⟩
  · exact Or.inl z
  · exact Or.inr ⟨i, j, h1, h2, by rw [← e i j (by omega) h2]; exact h3⟩
theorem tn_knM {Y : zY} {st : zT2} (W : Wf (yN Y) st) {p q : Nat} (hp : p < yN Y) (hq : q < yN Y) (hpq : ¬ p = q) (hn : knS Y st p q = false) {i j : Nat} (hi : i < yN Y) (hj : j < yN Y) : tnK (knS Y st) p q i j = knM Y st (p : Int) (q : Int) (-1) i j := by
  have hn2 : knS Y st q p = false := by
    cases e : knS Y st q p with
    | false => rfl
    | true => rw [kn_sym W q p hq hp e] at hn; cases hn
  unfold tnK
  by_cases c : (i = p ∧ j = q) ∨ (i = q ∧ j = p)
  · rw [decide_eq_true c]
    have k0 : knS Y st i j = false := by
      rcases c with ⟨rfl, rfl⟩ | ⟨rfl, rfl⟩
      · exact hn
      · exact hn2
    rw [k0]
    have lt : (st i j).toInt < (yL Y).toInt := by
      unfold knS at k0
      rw [if_neg (by omega)] at k0
      by_cases f : (st i j).toInt < (yL Y).toInt
      · exact f
      · rw [if_neg f] at k0; cases k0
    rw [kM_lt (by omega) (by omega) (by omega) lt, decide_eq_true (by omega)]
    rfl
  · rw [decide_eq_false c, Bool.xor_false]
    by_cases d : i = j
    · rw [kS_self d, kM_self d]
    · by_cases f : (st i j).toInt < (yL Y).toInt
      · rw [kS_lt d f, kM_lt d (by omega) (by omega) f]
        exact (decide_eq_false (by omega)).symm
      · rw [kS_ge d f, kM_ge d (by omega) (by omega) f]
def maS (Y : zY) (st : zT2) (i j : Nat) (s : Int32 × Int32) : Int32 × Int32 := if knS Y st i j = true then s else if (lgE (knM Y st (i : Int) (j : Int) (-1)) (yN Y)).toInt < s.2.toInt then (10 * Int32.ofNat i + Int32.ofNat j, lgE (knM Y st (i : Int) (j : Int) (-1)) (yN Y)) else s
theorem ma1 {Y : zY} {st : zT2} {i j : Nat} {s : Int32 × Int32} (h : knS Y st i j = true) : maS Y st i j s = s := if_pos h
theorem ma2 {Y : zY} {st : zT2} {i j : Nat} {s : Int32 × Int32} (h : ¬ knS Y st i j = true) (h2 : (lgE (knM Y st (i : Int) (j : Int) (-1)) (yN Y)).toInt < s.2.toInt) : maS Y st i j s = (10 * Int32.ofNat i + Int32.ofNat j, lgE (knM Y st (i : Int) (j : Int) (-1)) (yN Y)) := (if_neg h).trans (if_pos h2)
theorem ma3 {Y : zY} {st : zT2} {i j : Nat} {s : Int32 × Int32} (h : ¬ knS Y st i j = true) (h2 : ¬ (lgE (knM Y st (i : Int) (j : Int) (-1)) (yN Y)).toInt < s.2.toInt) : maS Y st i j s = s := (if_neg h).trans (if_neg h2)
theorem t9 : (9 : Int32).toInt = 9 := by decide
theorem match_54 {Y : zY} {y : Int32} {st : zT2} (W : Wf (yN Y) st) {v4 : Int32} {i : Nat} (h4 : v4.toInt = i) (hi : i < yN Y) {h0 : dH} (C0 : SC 43 Y y st h0) {s0 : Int32 × Int32} {k : Int32 → Int32 → dH → Option (Int32 × dH)} {P : Int32 × dH → Prop} (Kk : ∀ g, oFr g h0 → CQ (knS Y st) (yN Y) g → Al (k (fIn (maS Y st) i (yN Y) s0).1 (fIn (maS Y st) i (yN Y) s0).2 g) P) : ∀ (n : Nat) (v2 v3 v5 : Int32) (h : dH), i < v5.toInt → v5.toInt ≤ yN Y → v2 = (fIn (maS Y st) i v5.toInt.toNat s0).1 → v3 = (fIn (maS Y st) i v5.toInt.toNat s0).2 → oFr h h0 → CQ (knS Y st) (yN Y) h → Al (l_X6_match_54 v4 k n v2 v3 v5 h) P
  | 0, _, _, _, _, _, _, _, _, _, _ => al_none
  | n + 1, v2, v3, v5, h, p0, p1, e2, e3, F, Q => by
    have hN8 := C0.2.2.2.1
    have C : SC 43 Y y st h := C0.keep isZ43 (fun b k hb => F b k (by omega) (by omega))
    rw [l_X6_match_54, C.2.2.1]
    have t := inc1 (v := v5) (by omega)
    obtain ⟨j, hj⟩ : ∃ j, v5.toInt.toNat = j := ⟨_, rfl⟩
    have hj' : v5.toInt = j := by omega
    have en : (v5 + 1).toInt.toNat = j + 1 := by omega
    rw [hj] at e2 e3
    refine al_ite (fun c => al_oP (fun r10 h10 => ?_)) (fun c => ?_)
    · have hjN : j < yN Y := by omega
      have ef : fIn (maS Y st) i (j + 1) s0 = maS Y st i j (fIn (maS Y st) i j s0) := by rw [fIn, if_pos (by omega)]
      have kq := C.kn v4 v5 i j h4 hj' hi hjN r10 h10
      refine al_ite (fun z => al_oV' (fun g13 h13 => al_oP (fun r14 h14 => al_oV' (fun g15 h15 => ?_)))) (fun z => match_54 W h4 hi C0 Kk n v2 v3 (v5 + 1) h (by omega) (by omega) (by rw [en, ef, ma1 (kq.yes z)]; exact e2) (by rw [en, ef, ma1 (kq.yes z)]; exact e3) F Q)
      have nk := kq.no z
      have nk' : knS Y st i j = false := by
        cases e : knS Y st i j with
        | false => rfl
        | true => exact absurd e nk
      obtain ⟨Q13, F13⟩ := turn_ok Q hi hjN (by omega) h4 hj' g13 h13
      have lg := longest_ok Q13 r14 h14
      rw [t9] at lg
      have er := lgE_of (vl_congr (fun a b ha hb => tn_knM W hi hjN (by omega) nk' ha hb) lg)
      obtain ⟨Q15, F15⟩ := turn_ok Q13 hi hjN (by omega) h4 hj' g15 h15
      have Q15' : CQ (knS Y st) (yN Y) g15 := Q15.congr (fun a b _ _ => tnK_two)
      have F15' : oFr g15 h0 := F15.trans (F13.trans F)
      have e5 := i32_of hj'
      have e4 := i32_of h4
      refine al_ite (fun z2 => match_54 W h4 hi C0 Kk n _ _ (v5 + 1) g15 (by omega) (by omega) ?_ ?_ F15' Q15') (fun z2 => match_54 W h4 hi C0 Kk n _ _ (v5 + 1) g15 (by omega) (by omega) ?_ ?_ F15' Q15')
      · rw [en, ef, ma2 nk (by rw [← e3, ← er]; exact z2), e4, e5]
      · rw [en, ef, ma2 nk (by rw [← e3, ← er]; exact z2)]; exact er
      · rw [en, ef, ma3 nk (by rw [← e3, ← er]; exact z2)]; exact e2
      · rw [en, ef, ma3 nk (by rw [← e3, ← er]; exact z2)]; exact e3
    · rw [show j = yN Y by omega] at e2 e3
      rw [e2, e3]
      exact Kk h F Q
theorem match_36 {Y : zY} {y : Int32} {st : zT2} (W : Wf (yN Y) st) {h0 : dH} (C0 : SC 43 Y y st h0) {s0 : Int32 × Int32} {k : Int32 → Int32 → dH → Option (Int32 × dH)} {P : Int32 × dH → Prop} (Kk : ∀ g, oFr g h0 → Al (k (fOut (maS Y st) (yN Y) (yN Y) s0).1 (fOut (maS Y st) (yN Y) (yN Y) s0).2 g) P) : ∀ (n : Nat) (v2 v3 v4 : Int32) (h : dH), 0 ≤ v4.toInt → v4.toInt ≤ yN Y → v2 = (fOut (maS Y st) (yN Y) v4.toInt.toNat s0).1 → v3 = (fOut (maS Y st) (yN Y) v4.toInt.toNat s0).2 → oFr h h0 → CQ (knS Y st) (yN Y) h → Al (l_X6_match_36 k n v2 v3 v4 h) P
  | 0, _, _, _, _, _, _, _, _, _, _ => al_none
  | n + 1, v2, v3, v4, h, p0, p1, e2, e3, F, Q => by
    have hN8 := C0.2.2.2.1
    have C : SC 43 Y y st h := C0.keep isZ43 (fun b k hb => F b k (by omega) (by omega))
    rw [l_X6_match_36, C.2.2.1]
    have t := inc1 (v := v4) (by omega)
    have en : (v4 + 1).toInt.toNat = v4.toInt.toNat + 1 := by omega
    refine al_ite (fun c => ?_) (fun c => ?_)
    · refine match_54 W (i := v4.toInt.toNat) (by omega) (by omega) C0 (s0 := fOut (maS Y st) (yN Y) v4.toInt.toNat s0) (fun g Fg Qg => ?_) fuel0 v2 v3 (v4 + 1) h (by omega) (by omega) (by rw [fIn_le _ (by omega)]; exact e2) (by rw [fIn_le _ (by omega)]; exact e3) F Q
      exact match_36 W C0 Kk n _ _ (v4 + 1) g (by omega) (by omega) (by rw [en]; rfl) (by rw [en]; rfl) Fg Qg
    · rw [show v4.toInt.toNat = yN Y by omega] at e2 e3
      rw [e2, e3]
      exact Kk h F
theorem mmatch_44 {Y : zY} {y : Int32} {st : zT2} (W : Wf (yN Y) st) {v4 : Int32} {i : Nat} (h4 : v4.toInt = i) (hi : i < yN Y) {h0 : dH} (M0 : SM Y y st h0) (n0 : mNo h0) {s0 : Int32 × Int32} {k : Int32 → Int32 → dH → Option (Int32 × dH)} {P : Int32 × dH → Prop} (Kk : ∀ g, bFr g h0 → Al (k (fIn (maS Y st) i (yN Y) s0).1 (fIn (maS Y st) i (yN Y) s0).2 g) P) : ∀ (n : Nat) (v2 v3 v5 : Int32) (h : dH), i < v5.toInt → v5.toInt ≤ yN Y → v2 = (fIn (maS Y st) i v5.toInt.toNat s0).1 → v3 = (fIn (maS Y st) i v5.toInt.toNat s0).2 → bFr h h0 → Al (l_X7_match_44 v4 k n v2 v3 v5 h) P
  | 0, _, _, _, _, _, _, _, _, _ => al_none
  | n + 1, v2, v3, v5, h, p0, p1, e2, e3, F => by
    have hN8 := M0.2.2.2.1
    have M := M0.b F
    have n1 := mNo.b F n0
    rw [l_X7_match_44, M.2.2.1]
    have t := inc1 (v := v5) (by omega)
    obtain ⟨j, hj⟩ : ∃ j, v5.toInt.toNat = j := ⟨_, rfl⟩
    have hj' : v5.toInt = j := by omega
    have en : (v5 + 1).toInt.toNat = j + 1 := by omega
    rw [hj] at e2 e3
    refine al_ite (fun c => al_oP (fun r10 h10 => ?_)) (fun c => ?_)
    · have hjN : j < yN Y := by omega
      have ef : fIn (maS Y st) i (j + 1) s0 = maS Y st i j (fIn (maS Y st) i j s0) := by rw [fIn, if_pos (by omega)]
      have kq := M.kn n1 v4 v5 i j h4 hj' hi hjN r10 h10
      refine al_ite (fun z => al_oH' (fun g13 h13 => al_oH' (fun g14 h14 => al_oV' (fun g15 h15 => al_oH' (fun g16 h16 => al_oH' (fun g17 h17 => al_oP (fun r18 h18 => ?_))))))) (fun z => mmatch_44 W h4 hi M0 n0 Kk n v2 v3 (v5 + 1) h (by omega) (by omega) (by rw [en, ef, ma1 (kq.yes z)]; exact e2) (by rw [en, ef, ma1 (kq.yes z)]; exact e3) F)
      have nk := kq.no z
      have e14 : ∀ a k, ¬ (a = 0 ∧ (k = 29 ∨ k = 30)) → g14 a k = h a k := fun a k q => by rw [h14, dU_ne (by omega), h13, dU_ne (by omega)]
      have M14 : SM Y y st g14 := by
        obtain ⟨a0, a1, a2, a3, a4, a5, a6⟩ := M
        exact ⟨by rw [e14 0 7 (by omega)]; exact a0, by rw [e14 0 8 (by omega)]; exact a1, by rw [e14 0 13 (by omega)]; exact a2, a3, fun j hj => by rw [e14 4 j (by omega), e14 5 j (by omega), e14 6 j (by omega)]; exact a4 j hj, fun a b ha hb => by rw [e14 7 _ (by omega)]; exact a5 a b ha hb, a6.same (fun k => e14 1 k (by omega)) (fun k => e14 2 k (by omega)) (e14 0 4 (by omega))⟩
      have K14 := M14.knm (ea := (i : Int)) (eb := (j : Int)) (gn := -1) (by rw [h14, dU_ne (by omega), h13, dU_eq]; exact h4) (by rw [h14, dU_eq]; exact hj') (by rw [e14 0 31 (by omega)]; exact n1.2.2)
      obtain ⟨x1, x2⟩ := waysAll_ok K14 M14.2.2.1 hN8 g15 h15
      have e17 : ∀ a k, ¬ (a = 0 ∧ (k = 29 ∨ k = 30)) → g17 a k = g15 a k := fun a k q => by rw [h17, dU_ne (by omega), h16, dU_ne (by omega)]
      have x17 : WQ (knM Y st (i : Int) (j : Int) (-1)) (yN Y) g17 := ⟨by rw [e17 0 13 (by omega)]; exact x1.1, x1.2.1, fun a b ha hb => by rw [e17 8 _ (by omega)]; exact x1.2.2 a b ha hb⟩
      have nk' : knS Y st i j = false := by
        cases e : knS Y st i j with
        | false => rfl
        | true => exact absurd e nk
      have sy : ∀ a b, a < yN Y → b < yN Y → knM Y st (i : Int) (j : Int) (-1) a b = true → knM Y st (i : Int) (j : Int) (-1) b a = true := fun a b ha hb q => by
        rw [← tn_knM W hi hjN (by omega) nk' ha hb] at q
        rw [← tn_knM W hi hjN (by omega) nk' hb ha]
        unfold tnK at q ⊢
        have eq : knS Y st b a = knS Y st a b := by
          cases e1 : knS Y st a b with
          | true => exact kn_sym W a b ha hb e1
          | false =>
            cases e3 : knS Y st b a with
            | false => rfl
            | true => rw [kn_sym W b a hb ha e3] at e1; cases e1
        rw [eq, show decide ((b = i ∧ a = j) ∨ (b = j ∧ a = i)) = decide ((a = i ∧ b = j) ∨ (a = j ∧ b = i)) by rw [decide_eq_decide]; omega]
        exact q
      have lg := mlong_ok x17 sy r18 h18
      rw [t9] at lg
      have er := lgE_of lg
      have F17 : bFr g17 h0 := bFr.trans (fun a k y1 y2 y3 y4 => by
        by_cases e30 : a = 0 ∧ k = 30
        · obtain ⟨rfl, rfl⟩ := e30
          rw [h17, dU_eq]
          exact (Int32.toInt_inj.mp (n1.2.1.trans tm1.symm)).symm
        · by_cases e29 : a = 0 ∧ k = 29
          · obtain ⟨rfl, rfl⟩ := e29
            rw [h17, dU_ne (by omega), h16, dU_eq]
            exact (Int32.toInt_inj.mp (n1.1.trans tm1.symm)).symm
          · rw [e17 a k (by omega), x2 a k (by omega), e14 a k (by omega)]) F
      have e5 := i32_of hj'
      have e4 := i32_of h4
      refine al_ite (fun z2 => mmatch_44 W h4 hi M0 n0 Kk n _ _ (v5 + 1) g17 (by omega) (by omega) ?_ ?_ F17) (fun z2 => mmatch_44 W h4 hi M0 n0 Kk n _ _ (v5 + 1) g17 (by omega) (by omega) ?_ ?_ F17)
      · rw [en, ef, ma2 nk (by rw [← e3, ← er]; exact z2), e4, e5]
      · rw [en, ef, ma2 nk (by rw [← e3, ← er]; exact z2)]; exact er
      · rw [en, ef, ma3 nk (by rw [← e3, ← er]; exact z2)]; exact e2
      · rw [en, ef, ma3 nk (by rw [← e3, ← er]; exact z2)]; exact e3
    · rw [show j = yN Y by omega] at e2 e3
      rw [e2, e3]
      exact Kk h F
theorem mmatch_29 {Y : zY} {y : Int32} {st : zT2} (W : Wf (yN Y) st) {h0 : dH} (M0 : SM Y y st h0) (n0 : mNo h0) {s0 : Int32 × Int32} {k : Int32 → Int32 → dH → Option (Int32 × dH)} {P : Int32 × dH → Prop} (Kk : ∀ g, bFr g h0 → Al (k (fOut (maS Y st) (yN Y) (yN Y) s0).1 (fOut (maS Y st) (yN Y) (yN Y) s0).2 g) P) : ∀ (n : Nat) (v2 v3 v4 : Int32) (h : dH), 0 ≤ v4.toInt → v4.toInt ≤ yN Y → v2 = (fOut (maS Y st) (yN Y) v4.toInt.toNat s0).1 → v3 = (fOut (maS Y st) (yN Y) v4.toInt.toNat s0).2 → bFr h h0 → Al (l_X7_match_29 k n v2 v3 v4 h) P
  | 0, _, _, _, _, _, _, _, _, _ => al_none
  | n + 1, v2, v3, v4, h, p0, p1, e2, e3, F => by
    have hN8 := M0.2.2.2.1
    rw [l_X7_match_29, (M0.b F).2.2.1]
    have t := inc1 (v := v4) (by omega)
    have en : (v4 + 1).toInt.toNat = v4.toInt.toNat + 1 := by omega
    refine al_ite (fun c => ?_) (fun c => ?_)
    · refine mmatch_44 W (i := v4.toInt.toNat) (by omega) (by omega) M0 n0 (s0 := fOut (maS Y st) (yN Y) v4.toInt.toNat s0) (fun g Fg => ?_) fuel0 v2 v3 (v4 + 1) h (by omega) (by omega) (by rw [fIn_le _ (by omega)]; exact e2) (by rw [fIn_le _ (by omega)]; exact e3) F
      exact mmatch_29 W M0 n0 Kk n _ _ (v4 + 1) g (by omega) (by omega) (by rw [en]; rfl) (by rw [en]; rfl) Fg
    · rw [show v4.toInt.toNat = yN Y by omega] at e2 e3
      rw [e2, e3]
      exact Kk h F
theorem op_match {hC hM : dH} (q : RR hC hM) (v1 : Int32) : Op2 (f_X6_match v1 hC) (f_X7_match v1 hM) := by
  obtain ⟨C, M, W, R, T⟩ := q.st
  have l0 := L0
  have l1 := L1
  unfold Op2 f_X6_match
  refine al_oP (fun r3 h3 => ?_)
  have q3 := either6 r3 h3
  refine al_ite (fun d => al_some (al_in (fun r qr => al_ite (fun _ => al_some ⟨rfl, q⟩) (fun z => by omega)))) (fun d => al_oV' (fun g4 h4 => al_oP (fun r5 h5 => ?_)))
  obtain ⟨x1, x2⟩ := see_ok isZ43 C.kn C.2.2.1 C.2.2.2.1 g4 h4
  have C4 : SC 43 (yOf 43 hC) (hC 43 0) (stOf 43 hC) g4 := C.keep isZ43 (fun b k hb => x2 b k (by omega) (by omega))
  have lg := longest_ok x1 r5 h5
  rw [t9] at lg
  have er := lgE_of lg
  refine match_36 W C4 (s0 := (-1, lgE (knS (yOf 43 hC) (stOf 43 hC)) (yN (yOf 43 hC)))) (fun g Fg => ?_) fuel0 (-1) r5 0 g4 (by decide) (by rw [ti0]; omega) (by rw [ti0]; rfl) (by rw [ti0]; exact er) (fun _ _ _ _ => rfl) x1
  have mm : ∀ (x : Int32), x = (if v1.toInt = 0 then (fOut (maS (yOf 43 hC) (stOf 43 hC)) (yN (yOf 43 hC)) (yN (yOf 43 hC)) (-1, lgE (knS (yOf 43 hC) (stOf 43 hC)) (yN (yOf 43 hC)))).1 else (fOut (maS (yOf 43 hC) (stOf 43 hC)) (yN (yOf 43 hC)) (yN (yOf 43 hC)) (-1, lgE (knS (yOf 43 hC) (stOf 43 hC)) (yN (yOf 43 hC)))).2) → Al (f_X7_match v1 hM) (fun o2 => x = o2.1 ∧ RR g o2.2) := by
    intro x hx
    refine al_in (fun r qr => al_ite (fun z => by omega) (fun z => al_oV' (fun m4 p4 => al_oP (fun r5' h5' => ?_))))
    obtain ⟨y1, y2⟩ := waysAll_ok (M.kn q.2.2.2.2.2) M.2.2.1 M.2.2.2.1 m4 p4
    have lg2 := mlong_ok y1 (kn_sym W) r5' h5'
    rw [t9] at lg2
    have er2 := lgE_of lg2
    refine mmatch_29 W (M.b y2.b) (mNo.b y2.b q.2.2.2.2.2) (s0 := (-1, lgE (knS (yOf 43 hC) (stOf 43 hC)) (yN (yOf 43 hC)))) (fun gm F => ?_) fuel0 (-1) r5' 0 m4 (by decide) (by rw [ti0]; omega) (by rw [ti0]; rfl) (by rw [ti0]; exact er2) (bFr.refl _)
    have kk := q.keep (Fg.v.trans x2.v) (F.trans y2.b)
    refine al_ite (fun z => al_some ⟨?_, kk⟩) (fun z => al_some ⟨?_, kk⟩)
    · rw [hx, if_pos z]
    · rw [hx, if_neg z]
  exact al_ite (fun z => al_some (mm _ (if_pos z).symm)) (fun z => al_some (mm _ (if_neg z).symm))
end
end
