/-! years in thought, counts, kinds: on both sides -/
noncomputable section
theorem tm1 : (-1 : Int32).toInt = -1 := by decide
theorem isZ57 : zS 57 := Or.inr (Or.inl rfl)
theorem isZ43 : zS 43 := Or.inl rfl
theorem isZ71 : zS 71 := Or.inr (Or.inr rfl)
theorem op_run {hC hM : dH} (q : RR hC hM) (v1 v2 : Int32) : Op2 (f_X6_run v1 v2 hC) (f_X7_run v1 v2 hM) := by
  obtain ⟨C, M, W, R, T⟩ := q.st
  have l0 := L0
  have l4 := L4
  have l20 := L20
  have hN8 := C.2.2.2.1
  unfold Op2 f_X6_run
  refine al_oP (fun r1 h1 => ?_)
  have q1 := years6 r1 h1
  have ref : (¬ (0 ≤ v1.toInt ∧ v1.toInt ≤ 20) ∨ ¬ (0 ≤ v2.toInt ∧ v2.toInt ≤ 4)) → Al (some ((-2 : Int32), hC)) (fun o => Al (f_X7_run v1 v2 hM) (fun o2 => o.1 = o2.1 ∧ RR o.2 o2.2)) := by
    intro w
    refine al_some (al_in (fun r qr => al_ite (fun _ => al_some ⟨rfl, q⟩) (fun z => al_in (fun r2 q2 => al_ite (fun _ => al_some ⟨rfl, q⟩) (fun z => by omega)))))
  refine al_ite (fun c => ref (by omega)) (fun c => al_ite (fun d => ref (by omega)) (fun d => al_ite (fun e => ref (by omega)) (fun e => al_oV' (fun g8 h8 => al_oI (fun r9 g10 h10 => al_oI (fun r11 g12 h12 => al_some ?_))))))
  refine al_in (fun r qr => al_ite (fun z => by omega) (fun z => al_in (fun r2 q2 => al_ite (fun z => by omega) (fun z => al_oV' (fun m7 p7 => al_oV' (fun m8 p8 => al_oI (fun r9' m10 p10 => al_oV' (fun m11 p11 => al_some ?_))))))))
  have b := become_ok isZ57 isZ43 (by decide) hC g8 h8
  have hv : v1.toInt = (v1.toInt.toNat : Int) := by omega
  obtain ⟨x1, x2, x3⟩ := pass_ok isZ57 R W hv (by omega) (b.sc isZ57 isZ43 C) (r9, g10) h10
  simp only at x1 x2 x3
  obtain ⟨y1, -, y3⟩ := figure_ok isZ57 x2 (W.live _) (by omega) (r11, g12) h12
  have p := laysAside_ok hM m7 p7
  obtain ⟨z1, z2⟩ := lives_ok hv (by omega) (aside_sm M p) m8 p8
  have n8 : mNo m8 := mNo.g (z2.w.trans (fun a k _ _ _ _ => rfl)) (mNo.b (fun a k _ x y _ => p.2.2 a k (by omega) x) q.2.2.2.2.2)
  obtain ⟨w1, w2⟩ := tellsOf_ok z1 n8 (W.live _) (by omega) (r9', m10) p10
  exact ⟨figQ.uniq (by omega) (y1 (by omega)) w1, q.keep (y3.trans ((x3.v hN8).trans b.v)) (back_b p (wFr.trans (fun a k _ _ _ x => w2 a k x) z2.w) (laysBack_ok m10 m11 p11))⟩
/-! how many it takes -/
def tkQ (f : Nat → Int32) (k : Int) (r : Int32) : Prop := (∃ m : Nat, m ≤ 20 ∧ r.toInt = m ∧ k ≤ (f m).toInt ∧ ∀ j, j < m → (f j).toInt < k) ∨ (r.toInt = -1 ∧ ∀ j, j ≤ 20 → (f j).toInt < k)
theorem tkQ.uniq {f : Nat → Int32} {k : Int} {r s : Int32} (h1 : tkQ f k r) (h2 : tkQ f k s) : r = s := by
  apply Int32.toInt_inj.mp
  rcases h1 with ⟨m, a1, a2, a3, a4⟩ | ⟨a1, a2⟩ <;> rcases h2 with ⟨n, b1, b2, b3, b4⟩ | ⟨b1, b2⟩
  · rcases Nat.lt_trichotomy m n with h | h | h
    · have := b4 m h; omega
    · omega
    · have := a4 n h; omega
  · have := b2 m a1; omega
  · have := a2 n b1; omega
  · omega
theorem takes_31 {Y : zY} (hY : Yr Y) {y : Int32} {st : zT2} (W : Wf (yN Y) st) {v1 : Int32} {h0 : dH} : ∀ (n : Nat) (v2 v3 : Int32) (h : dH), 0 ≤ v3.toInt → v3.toInt ≤ 20 → v2 = frN Y y st v3.toInt.toNat → (∀ j, j < v3.toInt.toNat → (frN Y y st j).toInt < v1.toInt) → SC 57 Y (liveS Y y st v3.toInt.toNat).1 (liveS Y y st v3.toInt.toNat).2 h → cV h h0 → Al (l_X6_takes_31 v1 (fun v2_12 v3_13 g14 => if v2_12.toInt < v1.toInt then (some ((-1), g14)) else (some (v3_13, g14))) n v2 v3 h) (fun o => tkQ (frN Y y st) v1.toInt o.1 ∧ cV o.2 h0)
  | 0, _, _, _, _, _, _, _, _, _ => al_none
  | n + 1, v2, v3, h, p0, p1, e, hb, C, V => by
    have hN8 := C.2.2.2.1
    rw [l_X6_takes_31]
    have t := inc1 (v := v3) (by omega)
    obtain ⟨m, hm⟩ : ∃ m, v3.toInt.toNat = m := ⟨_, rfl⟩
    have en : (v3 + 1).toInt.toNat = m + 1 := by omega
    rw [hm] at e hb C
    have yes : ¬ v2.toInt < v1.toInt → tkQ (frN Y y st) v1.toInt v3 := fun z => Or.inl ⟨m, by omega, by omega, by rw [← e]; omega, hb⟩
    have fin : ∀ (_ : v2.toInt < v1.toInt → m = 20), Al (if v2.toInt < v1.toInt then (some ((-1 : Int32), h)) else (some (v3, h))) (fun o => tkQ (frN Y y st) v1.toInt o.1 ∧ cV o.2 h0) := fun z => al_ite (fun c => al_some ⟨Or.inr ⟨tm1, fun j hj => by
      by_cases ej : j = m
      · rw [ej, ← e]; exact c
      · exact hb j (by have := z c; omega)⟩, V⟩) (fun c => al_some ⟨yes c, V⟩)
    refine al_ite (fun c => al_ite (fun d => al_oI (fun r g hr => ?_)) (fun d => fin (fun z => absurd z d))) (fun c => fin (fun _ => by omega))
    obtain ⟨x1, x2, x3⟩ := pass_ok isZ57 hY (W.live m) (m := 1) ti1 (by omega) C (r, g) hr
    simp only at x1 x2 x3
    refine takes_31 hY W n r (v3 + 1) g (by omega) (by omega) (by rw [en]; exact x1) (fun j hj => ?_) (by rw [en]; exact x2) ((x3.v hN8).trans V)
    by_cases ej : j = m
    · rw [ej, ← e]; exact d
    · exact hb j (by omega)
theorem mtakes_21 {Y : zY} {y : Int32} {st : zT2} {v1 : Int32} {h0 : dH} (n0 : mNo h0) {K : Int32 → dH → Option (Int32 × dH)} {P : Int32 × dH → Prop} (Kk : ∀ v g, wFr g h0 → tkQ (frN Y y st) v1.toInt (if 20 < v.toInt then -1 else v) → Al (K v g) P) : ∀ (n : Nat) (v2 : Int32) (h : dH), 0 ≤ v2.toInt → v2.toInt ≤ 21 → (∀ j, j < v2.toInt.toNat → (frN Y y st j).toInt < v1.toInt) → SM Y (liveS Y y st v2.toInt.toNat).1 (liveS Y y st v2.toInt.toNat).2 h → wFr h h0 → Al (l_X7_takes_21 v1 K n v2 h) P
  | 0, _, _, _, _, _, _, _ => al_none
  | n + 1, v2, h, p0, p1, hb, M, F => by
    rw [l_X7_takes_21]
    have t := inc1 (v := v2) (by omega)
    obtain ⟨m, hm⟩ : ∃ m, v2.toInt.toNat = m := ⟨_, rfl⟩
    have en : (v2 + 1).toInt.toNat = m + 1 := by omega
    rw [hm] at hb M
    refine al_ite (fun c => Kk v2 h F ?_) (fun c => al_oP (fun r hr => al_ite (fun d => al_oV' (fun g hg => ?_)) (fun d => Kk v2 h F ?_)))
    · rw [if_pos c]
      exact Or.inr ⟨tm1, fun j hj => hb j (by omega)⟩
    · have er := mfriends_ok (M.kn (n0.g F)) M.2.2.1 M.2.2.2.1 r hr
      obtain ⟨x1, x2⟩ := lives_ok (m := 1) ti1 (by omega) M g hg
      refine mtakes_21 n0 Kk n (v2 + 1) g (by omega) (by omega) (fun j hj => ?_) (by rw [en]; exact x1) (x2.w.trans F)
      by_cases ej : j = m
      · rw [ej]
        have : frN Y y st m = r := er.symm
        rw [this]; exact d
      · exact hb j (by omega)
    · have er := mfriends_ok (M.kn (n0.g F)) M.2.2.1 M.2.2.2.1 r hr
      rw [if_neg c]
      have e2 : frN Y y st m = r := er.symm
      exact Or.inl ⟨m, by omega, by omega, by rw [e2]; omega, hb⟩
theorem op_takes {hC hM : dH} (q : RR hC hM) (v1 : Int32) : Op2 (f_X6_takes v1 hC) (f_X7_takes v1 hM) := by
  obtain ⟨C, M, W, R, T⟩ := q.st
  have l0 := L0
  have l28 := L28
  unfold Op2 f_X6_takes
  refine al_oP (fun r1 h1 => ?_)
  have q1 := friends6 r1 h1
  refine al_ite (fun c => al_some (al_in (fun r qr => al_ite (fun _ => al_some ⟨rfl, q⟩) (fun z => by omega)))) (fun c => al_oV' (fun g4 h4 => al_oP (fun r5 h5 => ?_)))
  have b := become_ok isZ57 isZ43 (by decide) hC g4 h4
  have C4 := b.sc isZ57 isZ43 C
  have e5 := friends_ok C4.kn C4.2.2.1 C4.2.2.2.1 r5 h5
  intro o ho
  obtain ⟨x1, x2⟩ := takes_31 R W fuel0 r5 0 g4 (by decide) (by decide) (by rw [ti0]; exact e5) (fun j hj => absurd hj (by rw [ti0]; exact Nat.not_lt_zero j)) (by rw [ti0]; exact C4) b.v o ho
  refine al_in (fun r qr => al_ite (fun z => by omega) (fun z => al_oV' (fun m4 p4 => ?_)))
  have p := laysAside_ok hM m4 p4
  have n4 : mNo m4 := mNo.b (fun a k _ x y _ => p.2.2 a k (by omega) x) q.2.2.2.2.2
  refine mtakes_21 (v1 := v1) n4 (fun v g F tk => al_oV' (fun g13 h13 => ?_)) _ 0 m4 (by decide) (by decide) (fun j hj => absurd hj (by rw [ti0]; exact Nat.not_lt_zero j)) (by rw [ti0]; exact aside_sm M p) (fun a k _ _ _ _ => rfl)
  have bb := back_b p F (laysBack_ok g g13 h13)
  refine al_ite (fun z => al_some ⟨?_, q.keep x2 bb⟩) (fun z => al_some ⟨?_, q.keep x2 bb⟩)
  · rw [if_pos z] at tk
    exact x1.uniq tk
  · rw [if_neg z] at tk
    exact x1.uniq tk
/-! counts -/
theorem cnt32_all : ∀ m, m ≤ 1000 → (cnt32 (fun _ => true) m).toInt = m
  | 0, _ => ti0
  | m + 1, h => by
    have ih := cnt32_all m (by omega)
    rw [cnt32, if_pos rfl, inc1 (by omega), ih]; rfl
def OpP (t u : Option Int32) : Prop := Al t (fun r => Al u (fun r2 => r = r2))
theorem mcount_65 {Y : zY} {y : Int32} {st : zT2} {h : dH} (M : SM Y y st h) {v1 : Int32} : ∀ (n : Nat) (v2 v3 : Int32), 0 ≤ v3.toInt → v3.toInt ≤ yN Y → v2 = cnt32 (fun k => decide (v1.toInt = 0 ∨ ¬ (yT Y k).toInt = -1)) v3.toInt.toNat → Al (l_X7_count_65 v1 h (fun v => some v) n v2 v3) (fun r => r = cnt32 (fun k => decide (v1.toInt = 0 ∨ ¬ (yT Y k).toInt = -1)) (yN Y))
  | 0, _, _, _, _, _ => al_none
  | n + 1, v2, v3, p0, p1, e => by
    obtain ⟨H0, H1, H2, H3, H4, H5, -⟩ := id M
    rw [l_X7_count_65, H2]
    have t := inc1 (v := v3) (by omega)
    have en : (v3 + 1).toInt.toNat = v3.toInt.toNat + 1 := by omega
    refine al_ite (fun c => ?_) (fun c => al_some (by rw [e, show v3.toInt.toNat = yN Y by omega]))
    have e6 := (H4 v3.toInt.toNat (by omega)).2.2
    rw [e6]
    refine al_ite (fun z => mcount_65 M n _ _ (by omega) (by omega) ?_) (fun z => al_ite (fun _ => al_ite (fun w => mcount_65 M n _ _ (by omega) (by omega) ?_) (fun w => mcount_65 M n _ _ (by omega) (by omega) ?_)) (fun _ => al_none))
    · rw [en, cnt32, if_pos (decide_eq_true (Or.inl z)), e]
    · rw [Int32.add_zero, en, cnt32, if_neg (by rw [decide_eq_true_eq]; omega), e]
    · rw [en, cnt32, if_pos (decide_eq_true (Or.inr w)), e]
theorem rule_eq {hC hM : dH} (q : RR hC hM) : dti (dtx (hC 43 3)) = hM 0 4 := by
  obtain ⟨w1, w2, w3, w4, w5, w6, w7, -⟩ := q.1
  rw [w7.1]
  unfold dti
  rw [show (10 + 4 * (hM 0 4).toInt.toNat - 10) / 4 = (hM 0 4).toInt.toNat by omega]
  exact i32_nat w7.2.1
theorem op_count {hC hM : dH} (q : RR hC hM) (v1 : Int32) : OpP (f_X6_count v1 hC) (f_X7_count v1 hM) := by
  obtain ⟨C, M, W, R, T⟩ := q.st
  obtain ⟨q1, q2, q3, q4, q5, q6⟩ := id q
  have l0 := L0
  have l5 := L5
  have hN8 := M.2.2.2.1
  unfold OpP f_X6_count
  have cnt : ∀ {P : Int32 → Prop}, (∀ r, r = cnt32 (fun k => decide (v1.toInt = 0 ∨ ¬ (yT (yOf 43 hC) k).toInt = -1)) (yN (yOf 43 hC)) → P r) → Al (l_X7_count_65 v1 hM (fun v2_19 => (some v2_19)) fuel0 0 0) P := fun k => al_mono (mcount_65 M _ 0 0 (by decide) (by rw [ti0]; omega) rfl) k
  refine al_ite (fun c => al_some ?_) (fun c0 => al_ite (fun c => al_oP (fun r hr => al_some ?_)) (fun c1 => al_ite (fun c => al_some ?_) (fun c2 => al_ite (fun c => al_some ?_) (fun c3 => al_ite (fun c => al_some ?_) (fun c4 => al_ite (fun c => al_some ?_) (fun c5 => al_some ?_))))))
  · refine al_in (fun r qr => al_ite (fun z => by omega) (fun z => al_ite (fun d => by omega) (fun d => cnt (fun r2 h2 => ?_))))
    rw [h2, cnt32_congr _ (fun j _ => show _ = true from decide_eq_true (Or.inl c))]
    apply Int32.toInt_inj.mp
    rw [cnt32_all _ (by omega), C.2.2.1]
  · refine al_in (fun r5 qr => al_ite (fun z => by omega) (fun z => al_ite (fun d => by omega) (fun d => cnt (fun r2 h2 => ?_))))
    rw [h2, seated_ok C T r hr]
    unfold seS
    exact cnt32_congr _ (fun j _ => by rw [decide_eq_decide]; omega)
  · exact al_in (fun r qr => al_ite (fun z => by omega) (fun z => al_ite (fun d => al_ite (fun _ => al_some M.1.symm) (fun z => by omega)) (fun d => by omega)))
  · exact al_in (fun r qr => al_ite (fun z => by omega) (fun z => al_ite (fun d => al_ite (fun z => by omega) (fun z => al_ite (fun _ => al_some q3.1) (fun z => by omega))) (fun d => by omega)))
  · exact al_in (fun r qr => al_ite (fun z => by omega) (fun z => al_ite (fun d => al_ite (fun z => by omega) (fun z => al_ite (fun z => by omega) (fun z => al_ite (fun _ => al_some q4.1) (fun z => by omega)))) (fun d => by omega)))
  · exact al_in (fun r qr => al_ite (fun z => by omega) (fun z => al_ite (fun d => al_ite (fun z => by omega) (fun z => al_ite (fun z => by omega) (fun z => al_ite (fun z => by omega) (fun z => al_some (rule_eq q))))) (fun d => by omega)))
  · exact al_in (fun r qr => al_ite (fun _ => al_some rfl) (fun z => by omega))
/-! kinds -/
def unK (a b : Nat) : Bool := decide (a = b) || (decide (b = 0) || (decide (a = 3 ∧ b = 1) || decide (a = 4 ∧ b = 2)))
theorem six6 {P : Nat → Nat → Prop} (h : ∀ a b : Fin 6, P a.val b.val) : ∀ a b, a < 6 → b < 6 → P a b := fun a b ha hb => h ⟨a, ha⟩ ⟨b, hb⟩
theorem under6 : ∀ a b, a < 6 → b < 6 → (f_X6_isUnder (Int32.ofNat a) (Int32.ofNat b)) = some (if unK a b = true then 1 else 0) := six6 (by decide +kernel)
theorem taken7 (K : Int32 → Option Int32) : ∀ a b, a < 6 → b < 6 → l_X7_taken_33 (Int32.ofNat b) K fuel0 (Int32.ofNat a) = K (if unK a b = true then Int32.ofNat b else -1) := by
  intro a b ha hb
  have h1 : a = 0 ∨ a = 1 ∨ a = 2 ∨ a = 3 ∨ a = 4 ∨ a = 5 := by omega
  have h2 : b = 0 ∨ b = 1 ∨ b = 2 ∨ b = 3 ∨ b = 4 ∨ b = 5 := by omega
  rcases h1 with rfl | rfl | rfl | rfl | rfl | rfl <;> rcases h2 with rfl | rfl | rfl | rfl | rfl | rfl <;> rfl
theorem op_taken {hC hM : dH} (q : RR hC hM) (v1 v2 : Int32) : OpP (f_X6_taken v1 v2 hC) (f_X7_taken v1 v2 hM) := by
  obtain ⟨C, M, W, R, T⟩ := q.st
  have l0 := L0
  have l5 := L5
  have M2 := M.2.2.1
  have M3 := M.2.2.2.1
  have kd := q.1.2.2.2.2.2.2.2.2.1
  unfold OpP f_X6_taken
  refine al_ite (fun c => al_some (al_in (fun r qr => al_ite (fun _ => al_some rfl) (fun z => by omega)))) (fun c => al_ite (fun d => ?_) (fun d => al_some (al_in (fun r qr => al_ite (fun _ => al_some rfl) (fun z => by omega)))))
  refine al_house6 C.2.2.1 (fun r1 q1 => al_ite (fun e => al_some (al_in (fun r qr => al_ite (fun z => by omega) (fun z => al_house7 M2 M3 (fun r5 q5 => al_ite (fun _ => al_some rfl) (fun z => by omega)))))) (fun e => al_ite (fun _ => al_oP (fun r9 h9 => ?_)) (fun _ => al_none)))
  have hi : v1.toInt.toNat < yN (yOf 43 hC) := by omega
  obtain ⟨k1, k2, k3⟩ := M.2.2.2.2.1 v1.toInt.toNat hi
  have kr := (kd v1.toInt.toNat hi).1
  obtain ⟨a, ha⟩ : ∃ a : Nat, (hC (43 + 1) v1.toInt.toNat).toInt = a := ⟨(hC (43 + 1) v1.toInt.toNat).toInt.toNat, by omega⟩
  obtain ⟨b, hb⟩ : ∃ b : Nat, v2.toInt = b := ⟨v2.toInt.toNat, by omega⟩
  have ea := i32_of ha
  have eb := i32_of hb
  have k1' : hM 4 v1.toInt.toNat = Int32.ofNat a := k1.trans ea
  have k2' : hM 5 v1.toInt.toNat = hC (43 + 2) v1.toInt.toNat := k2
  rw [ea, eb, under6 a b (by omega) (by omega)] at h9
  have e9 := Option.some.inj h9
  have mm : ∀ {P : Int32 → Prop}, Al (if (if unK a b = true then Int32.ofNat b else -1 : Int32).toInt = v2.toInt then (if 0 ≤ v1.toInt ∧ v1.toInt < 8 then ((some (hM 5 (v1.toInt.toNat)))) else none) else ((some (-13)))) P → Al (f_X7_taken v1 v2 hM) P := by
    intro P hP
    unfold f_X7_taken
    refine al_in (fun r qr => al_ite (fun z => by omega) (fun z => al_house7 M2 M3 (fun r5 q5 => al_ite (fun z => by omega) (fun z => al_ite (fun _ => ?_) (fun _ => al_none)))))
    rw [k1']
    have t7 := taken7 (fun v3_13 => if v3_13.toInt = v2.toInt then (if 0 ≤ v1.toInt ∧ v1.toInt < 8 then ((some (hM 5 (v1.toInt.toNat)))) else none) else ((some (-13)))) a b (by omega) (by omega)
    rw [← eb] at t7
    rw [t7, eb]
    rw [eb] at hP
    exact hP
  refine al_ite (fun z => al_some (mm ?_)) (fun z => al_ite (fun _ => al_some (mm ?_)) (fun _ => al_none))
  · have : ¬ unK a b = true := fun w => by rw [if_pos w] at e9; rw [← e9, ti1] at z; omega
    rw [if_neg this]
    exact al_ite (fun w => by rw [show (-1 : Int32).toInt = -1 by decide] at w; omega) (fun _ => al_some rfl)
  · have : unK a b = true := by
      cases w : unK a b with
      | true => rfl
      | false => rw [w, if_neg (by decide)] at e9; exact absurd (by rw [← e9]; exact ti0) z
    rw [if_pos this, ← eb]
    exact al_ite (fun _ => al_ite (fun _ => al_some k2'.symm) (fun _ => al_none)) (fun w => absurd rfl w)
end
