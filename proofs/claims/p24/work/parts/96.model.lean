/-! streets: the reference's seats, names, what a house tells -/
noncomputable section
/-- what the rule tells, read anew over the same bytes -/
def mEv (E : Nat → (Nat → Int32) → Int32) (h : dH) : Prop := ∀ (h' : dH) (v1 v2 : Int32) (o : Int32 × dH) (pt : Nat), (∀ k, h' 1 k = h 1 k) → (∀ k, h' 2 k = h 2 k) → pt < 3 → v1 = h 0 4 → v2.toInt = pt → f_X7_read v1 v2 h' = some o → mRd o.2 h' ∧ w60 o.1 = E pt (nmF h')
/-- the reference's street -/
def SM (Y : zY) (y : Int32) (st : zT2) (h : dH) : Prop :=
  h 0 7 = y ∧ h 0 8 = yL Y ∧ (h 0 13).toInt = yN Y ∧ yN Y ≤ 8 ∧ (∀ i, i < yN Y → h 4 i = yK Y i ∧ h 5 i = yB Y i ∧ h 6 i = yT Y i) ∧ (∀ i j, i < yN Y → j < yN Y → h 7 (8 * i + j) = st i j) ∧ mEv (yE Y) h
/-- all but its names and its reading -/
def mFr (g h : dH) : Prop := ∀ a k, ¬ (a = 0 ∧ 14 ≤ k ∧ k ≤ 28) → g a k = h a k
theorem mFr.refl (h : dH) : mFr h h := fun _ _ _ => rfl
theorem mFr.trans {f g h : dH} (q : mFr f g) (r : mFr g h) : mFr f h := fun a k x => (q a k x).trans (r a k x)
theorem mEv.same {E : Nat → (Nat → Int32) → Int32} {g h : dH} (H : mEv E h) (h1 : ∀ k, g 1 k = h 1 k) (h2 : ∀ k, g 2 k = h 2 k) (h4 : g 0 4 = h 0 4) : mEv E g := fun h' v1 v2 o pt a1 a2 a3 a4 a5 a6 => H h' v1 v2 o pt (fun k => (a1 k).trans (h1 k)) (fun k => (a2 k).trans (h2 k)) a3 (a4.trans h4) a5 a6
theorem SM.n {Y : zY} {y : Int32} {st : zT2} {g h : dH} (q : mFr g h) (H : SM Y y st h) : SM Y y st g := by
  obtain ⟨h0, h1, h2, h3, h4, h5, h6⟩ := H
  refine ⟨by rw [q 0 7 (by omega)]; exact h0, by rw [q 0 8 (by omega)]; exact h1, by rw [q 0 13 (by omega)]; exact h2, h3, fun i hi => ?_, fun i j hi hj => ?_, h6.same (fun k => q 1 k (by omega)) (fun k => q 2 k (by omega)) (q 0 4 (by omega))⟩
  · rw [q 4 i (by omega), q 5 i (by omega), q 6 i (by omega)]; exact h4 i hi
  · rw [q 7 _ (by omega)]; exact h5 i j hi hj
theorem mRd.m {g h : dH} (q : mRd g h) : mFr g h := fun a k x => by
  by_cases ha : a = 0
  · rw [ha]; exact q.2 k (by omega)
  · exact q.1 a k ha
theorem seatsOf_4 {h : dH} {Y : zY} {y : Int32} {st : zT2} (H : SM Y y st h) {v1 : Int32} {i : Nat} (h1 : v1.toInt = i) (hi : i < yN Y) : ∀ (n : Nat) (v2 v3 : Int32), 0 ≤ v3.toInt → v3.toInt ≤ yN Y → v2 = (if (yT Y i).toInt = -1 then 0 else cnt32 (fun k => decide ((yT Y k).toInt = (yT Y i).toInt)) v3.toInt.toNat) → Al (l_X7_seatsOf_4 v1 h (fun v => some v) n v2 v3) (fun r => r = seatsS Y i)
  | 0, _, _, _, _, _ => al_none
  | n + 1, v2, v3, p0, p1, e => by
    obtain ⟨H0, H1, H2, H3, H4, H5, -⟩ := id H
    rw [l_X7_seatsOf_4]
    have e1 : v1.toInt.toNat = i := by omega
    rw [e1]
    have t3 : v3.toInt < 8 → (v3 + 1).toInt = v3.toInt + 1 := fun z => i_add rfl (by decide) (by omega) (by omega)
    have go : v3.toInt < yN Y → ∀ w : Int32, w = (if (yT Y i).toInt = -1 then 0 else cnt32 (fun k => decide ((yT Y k).toInt = (yT Y i).toInt)) (v3.toInt.toNat + 1)) → Al (l_X7_seatsOf_4 v1 h (fun v => some v) n w (v3 + 1)) (fun r => r = seatsS Y i) := by
      intro z w hw
      have en : (v3 + 1).toInt.toNat = v3.toInt.toNat + 1 := by rw [t3 (by omega)]; omega
      exact seatsOf_4 H h1 hi n w (v3 + 1) (by rw [t3 (by omega)]; omega) (by rw [t3 (by omega)]; omega) (by rw [en]; exact hw)
    refine al_ite (fun c => al_ite (fun _ => ?_) (fun _ => al_none)) (fun c => al_some ?_)
    · rw [(H4 i hi).2.2]
      refine al_ite (fun z => go (by omega) _ ?_) (fun z => al_ite (fun _ => al_ite (fun _ => ?_) (fun _ => al_none)) (fun _ => al_none))
      · rw [Int32.add_zero, e, if_pos z, if_pos z]
      · rw [(H4 v3.toInt.toNat (by omega)).2.2]
        rw [if_neg z] at e
        refine al_ite (fun q => go (by omega) _ ?_) (fun q => go (by omega) _ ?_)
        · rw [if_neg z, cnt32, if_pos (decide_eq_true q), e]
        · rw [Int32.add_zero, if_neg z, cnt32, if_neg (by rw [decide_eq_true_eq]; exact q), e]
    · rw [e, show v3.toInt.toNat = yN Y by omega]
      rfl
theorem seatsOf_ok {h : dH} {Y : zY} {y : Int32} {st : zT2} (H : SM Y y st h) {v1 : Int32} {i : Nat} (h1 : v1.toInt = i) (hi : i < yN Y) : Al (f_X7_seatsOf v1 h) (fun r => r = seatsS Y i) := by
  unfold f_X7_seatsOf
  refine seatsOf_4 H h1 hi _ 0 0 (by decide) (by rw [ti0]; omega) ?_
  by_cases z : (yT Y i).toInt = -1
  · rw [if_pos z]
  · rw [if_neg z]; rfl
theorem within60 {v : Int32} : Al (f_X7_within v 0 60) (fun r => r = w60 v) := by
  unfold f_X7_within w60
  rw [ti0, show (60 : Int32).toInt = 60 by decide]
  exact al_ite (fun c => al_some (by rw [if_pos c])) (fun c => al_ite (fun d => al_some (by rw [if_neg c, if_pos d])) (fun d => al_some (by rw [if_neg c, if_neg d])))
theorem apart_ok {v1 v2 : Int32} {i j : Nat} (h1 : v1.toInt = i) (h2 : v2.toInt = j) (hi : i < 1000) (hj : j < 1000) : Al (f_X7_apart v1 v2) (fun r => r = apS i j) := by
  unfold f_X7_apart
  have e12 : (v1 - v2).toInt = (i : Int) - j := i_sub h1 h2 (by omega) (by omega)
  have e21 : (v2 - v1).toInt = (j : Int) - i := i_sub h2 h1 (by omega) (by omega)
  have ea : (apS i j).toInt = (if j < i then (i : Int) - j else j - i) := by
    unfold apS
    rw [Int32.toInt_ofNat_of_lt (by split <;> omega)]
    split <;> omega
  refine al_ite (fun c => al_some (Int32.toInt_inj.mp ?_)) (fun c => al_some (Int32.toInt_inj.mp ?_))
  · rw [e12, ea, if_pos (by omega)]
  · rw [e21, ea, if_neg (by omega)]
theorem ix8 {v1 v2 : Int32} {i j : Nat} (h1 : v1.toInt = i) (h2 : v2.toInt = j) (hi : i < 8) (hj : j < 8) : (8 * v1 + v2).toInt = 8 * (i : Int) + j ∧ (8 * v1 + v2).toInt.toNat = 8 * i + j := by
  have e1 : (8 * v1).toInt = 8 * (i : Int) := i_mul (by decide) h1 (by omega) (by omega)
  have e2 : (8 * v1 + v2).toInt = 8 * (i : Int) + j := i_add e1 h2 (by omega) (by omega)
  exact ⟨e2, by omega⟩
theorem strengthOf_ok {h : dH} {v1 v2 : Int32} {i j : Nat} (h1 : v1.toInt = i) (h2 : v2.toInt = j) (hi : i < 8) (hj : j < 8) : Al (f_X7_strengthOf v1 v2 h) (fun r => r = h 7 (8 * i + j)) := by
  unfold f_X7_strengthOf
  obtain ⟨e1, e2⟩ := ix8 h1 h2 hi hj
  rw [e2]
  exact al_ite (fun _ => al_some rfl) (fun _ => al_none)
/-- the last step of says -/
theorem says_end {h g : dH} {Y : zY} {y : Int32} {st : zT2} (H : SM Y y st h) (hg : mFr g h) {nm : Nat → Int32} (hnm : nmF g = nm) {v1 : Int32} {pt : Nat} (hpt : pt < 3) (hv : v1.toInt = pt) : Al (oI (f_X7_read (g 0 4) v1 g) (fun r x => oP (f_X7_within r 0 60) (fun r2 => some (r2, x)))) (fun o => o.1 = yE Y pt nm ∧ mFr o.2 h) := by
  refine al_oI (fun r x hr => al_oP (fun r2 hr2 => al_some ?_))
  obtain ⟨q1, q2⟩ := H.2.2.2.2.2.2 g (g 0 4) v1 (r, x) pt (fun k => hg 1 k (by omega)) (fun k => hg 2 k (by omega)) hpt (hg 0 4 (by omega)) hv hr
  refine ⟨?_, q1.m.trans hg⟩
  rw [within60 r2 hr2, ← hnm]
  exact q2
theorem says_ok {h : dH} {Y : zY} {y : Int32} {st : zT2} (H : SM Y y st h) {v1 v2 v3 : Int32} {pt i j : Nat} (hpt : pt < 3) (h1 : v1.toInt = pt) (h2 : v2.toInt = i) (h3 : v3.toInt = j) (hi : i < yN Y) (hj : j < yN Y) : Al (f_X7_says v1 v2 v3 h) (fun o => o.1 = yE Y pt (nmS Y y st i j) ∧ mFr o.2 h) := by
  obtain ⟨H0, H1, H2, H3, H4, H5, -⟩ := id H
  have e2 : v2.toInt.toNat = i := by omega
  have e3 : v3.toInt.toNat = j := by omega
  unfold f_X7_says
  rw [if_neg (by omega), e2, e3]
  refine al_oP (fun r39 hr => al_oH' (fun g40 q40 => al_ite (fun _ => al_oH' (fun g42 q42 => al_ite (fun z => absurd z (by omega)) (fun _ => al_ite (fun _ => al_oH' (fun g61 q61 => al_oP (fun r62 hr62 => al_oH' (fun g63 q63 => al_oH' (fun g64 q64 => al_ite (fun z => absurd z (by omega)) (fun _ => al_oP (fun r71 hr71 => al_oH' (fun g72 q72 => ?_)))))))) (fun _ => al_none)))) (fun _ => al_none)))
  have s1 := strengthOf_ok h2 h3 (by omega) (by omega) r39 hr
  have m61 : mFr g61 h := fun a k x => by rw [q61, dU_ne (by omega), q42, dU_ne (by omega), q40, dU_ne (by omega)]
  have s2 := seatsOf_ok (H.n m61) h2 hi r62 hr62
  have s3 := apart_ok h2 h3 (by omega) (by omega) r71 hr71
  have m72 : mFr g72 h := fun a k x => by rw [q72, dU_ne (by omega), q64, dU_ne (by omega), q63, dU_ne (by omega)]; exact m61 a k x
  refine says_end H m72 ?_ hpt h1
  funext k
  by_cases hk : k < 6
  · have x5 : k = 0 ∨ k = 1 ∨ k = 2 ∨ k = 3 ∨ k = 4 ∨ k = 5 := by omega
    unfold nmF
    rw [if_pos hk]
    rcases x5 with rfl | rfl | rfl | rfl | rfl | rfl
    · rw [q72, dU_ne (by omega), q64, dU_ne (by omega), q63, dU_ne (by omega), q61, dU_ne (by omega), q42, dU_ne (by omega), q40, dU_eq, s1]
      exact H5 i j hi hj
    · rw [q72, dU_ne (by omega), q64, dU_ne (by omega), q63, dU_ne (by omega), q61, dU_ne (by omega), q42, dU_eq, q40, dU_ne (by omega)]
      exact (H4 i hi).2.1
    · rw [q72, dU_ne (by omega), q64, dU_ne (by omega), q63, dU_ne (by omega), q61, dU_eq, q42, dU_ne (by omega), q40, dU_ne (by omega)]
      exact (H4 j hj).2.1
    · rw [q72, dU_ne (by omega), q64, dU_ne (by omega), q63, dU_eq]
      exact s2
    · rw [q72, dU_ne (by omega), q64, dU_eq, q63, dU_ne (by omega), m61 0 7 (by omega)]
      exact H0
    · rw [q72, dU_eq]
      exact s3
  · unfold nmF
    rw [if_neg hk]
    match k, hk with
    | 0, z => exact absurd z (by omega)
    | 1, z => exact absurd z (by omega)
    | 2, z => exact absurd z (by omega)
    | 3, z => exact absurd z (by omega)
    | 4, z => exact absurd z (by omega)
    | 5, z => exact absurd z (by omega)
    | k + 6, _ => rfl
theorem saysZ_ok {h : dH} {Y : zY} {y : Int32} {st : zT2} (H : SM Y y st h) {v1 v2 v3 : Int32} {pt i : Nat} (hpt : pt < 3) (h1 : v1.toInt = pt) (h2 : v2.toInt = i) (h3 : v3.toInt = -1) (hi : i < yN Y) : Al (f_X7_says v1 v2 v3 h) (fun o => o.1 = yE Y pt (nmZ Y y i) ∧ mFr o.2 h) := by
  obtain ⟨H0, H1, H2, H3, H4, H5, -⟩ := id H
  have e2 : v2.toInt.toNat = i := by omega
  unfold f_X7_says
  rw [if_pos h3, e2]
  refine al_oH' (fun g40 q40 => al_ite (fun _ => al_oH' (fun g42 q42 => al_ite (fun _ => al_oH' (fun g61 q61 => al_oP (fun r62 hr62 => al_oH' (fun g63 q63 => al_oH' (fun g64 q64 => al_ite (fun _ => al_oH' (fun g72 q72 => ?_)) (fun z => absurd h3 z)))))) (fun z => absurd h3 z))) (fun _ => al_none))
  have m61 : mFr g61 h := fun a k x => by rw [q61, dU_ne (by omega), q42, dU_ne (by omega), q40, dU_ne (by omega)]
  have s2 := seatsOf_ok (H.n m61) h2 hi r62 hr62
  have m72 : mFr g72 h := fun a k x => by rw [q72, dU_ne (by omega), q64, dU_ne (by omega), q63, dU_ne (by omega)]; exact m61 a k x
  refine says_end H m72 ?_ hpt h1
  funext k
  by_cases hk : k < 6
  · have x5 : k = 0 ∨ k = 1 ∨ k = 2 ∨ k = 3 ∨ k = 4 ∨ k = 5 := by omega
    unfold nmF
    rw [if_pos hk]
    rcases x5 with rfl | rfl | rfl | rfl | rfl | rfl
    · rw [q72, dU_ne (by omega), q64, dU_ne (by omega), q63, dU_ne (by omega), q61, dU_ne (by omega), q42, dU_ne (by omega), q40, dU_eq]
      rfl
    · rw [q72, dU_ne (by omega), q64, dU_ne (by omega), q63, dU_ne (by omega), q61, dU_ne (by omega), q42, dU_eq, q40, dU_ne (by omega)]
      exact (H4 i hi).2.1
    · rw [q72, dU_ne (by omega), q64, dU_ne (by omega), q63, dU_ne (by omega), q61, dU_eq]
      rfl
    · rw [q72, dU_ne (by omega), q64, dU_ne (by omega), q63, dU_eq]
      exact s2
    · rw [q72, dU_ne (by omega), q64, dU_eq, q63, dU_ne (by omega), m61 0 7 (by omega)]
      exact H0
    · rw [q72, dU_eq]
      rfl
  · unfold nmF
    rw [if_neg hk]
    match k, hk with
    | 0, z => exact absurd z (by omega)
    | 1, z => exact absurd z (by omega)
    | 2, z => exact absurd z (by omega)
    | 3, z => exact absurd z (by omega)
    | 4, z => exact absurd z (by omega)
    | 5, z => exact absurd z (by omega)
    | k + 6, _ => rfl
theorem meetsOf_ok {h : dH} {Y : zY} {y : Int32} {st : zT2} (H : SM Y y st h) {v1 v2 : Int32} {i j : Nat} (h1 : v1.toInt = i) (h2 : v2.toInt = j) (hi : i < yN Y) (hj : j < yN Y) : Al (f_X7_meetsOf v1 v2 h) (fun o => o.1 = mtS Y y st i j ∧ mFr o.2 h) := by
  obtain ⟨H0, H1, H2, H3, H4, H5, -⟩ := id H
  have e1 : v1.toInt.toNat = i := by omega
  unfold f_X7_meetsOf
  rw [e1, (H4 i hi).1]
  refine al_ite (fun _ => al_oI (fun r2 g3 hr => ?_)) (fun _ => al_none)
  obtain ⟨x1, x2⟩ := says_ok H (pt := 0) (by omega) (by decide) h1 h2 hi hj (r2, g3) hr
  simp only at x1 x2
  have en : g3 5 i = yB Y i := by rw [x2 5 i (by omega)]; exact (H4 i hi).2.1
  rw [en]
  unfold mtS mtV
  rw [← x1]
  refine al_ite (fun c1 => al_some ⟨by rw [if_pos c1], x2⟩) (fun c1 => al_ite (fun c3 => al_ite (fun _ => al_some ⟨by rw [if_neg c1, if_neg (by omega), if_pos c3], x2⟩) (fun _ => al_none)) (fun c3 => al_ite (fun c2 => al_some ⟨by rw [if_neg c1, if_pos c2], x2⟩) (fun c2 => al_ite (fun c4 => al_oP (fun r13 hr13 => ?_)) (fun c4 => al_ite (fun c5 => al_some ⟨by rw [if_neg c1, if_neg c2, if_neg c3, if_neg c4, if_pos c5], x2⟩) (fun c5 => al_some ⟨by rw [if_neg c1, if_neg c2, if_neg c3, if_neg c4, if_neg c5], x2⟩)))))
  have ea := apart_ok h1 h2 (by omega) (by omega) r13 hr13
  rw [ea]
  exact al_ite (fun c5 => al_some ⟨by rw [if_neg c1, if_neg c2, if_neg c3, if_pos c4, if_pos c5], x2⟩) (fun c5 => al_some ⟨by rw [if_neg c1, if_neg c2, if_neg c3, if_pos c4, if_neg c5], x2⟩)
theorem fadesOf_ok {h : dH} {Y : zY} {y : Int32} {st : zT2} (H : SM Y y st h) {v1 v2 : Int32} {i j : Nat} (h1 : v1.toInt = i) (h2 : v2.toInt = j) (hi : i < yN Y) (hj : j < yN Y) : Al (f_X7_fadesOf v1 v2 h) (fun o => o.1 = fdS Y y st i j ∧ mFr o.2 h) := by
  obtain ⟨H0, H1, H2, H3, H4, H5, -⟩ := id H
  have e1 : v1.toInt.toNat = i := by omega
  unfold f_X7_fadesOf
  rw [e1, (H4 i hi).1]
  refine al_ite (fun _ => al_oI (fun r2 g3 hr => ?_)) (fun _ => al_none)
  obtain ⟨x1, x2⟩ := says_ok H (pt := 1) (by omega) (by decide) h1 h2 hi hj (r2, g3) hr
  simp only at x1 x2
  have en : g3 0 7 = y := by rw [x2 0 7 (by omega)]; exact H0
  rw [en]
  unfold fdS fdV
  rw [← x1]
  refine al_ite (fun c1 => al_some ⟨by rw [if_pos c1], x2⟩) (fun c1 => al_ite (fun c3 => al_some ⟨by rw [if_neg c1, if_neg (by omega), if_pos c3], x2⟩) (fun c3 => al_ite (fun c2 => al_some ⟨by rw [if_neg c1, if_pos c2], x2⟩) (fun c2 => al_ite (fun c4 => ?_) (fun c4 => al_some ⟨by rw [if_neg c1, if_neg c2, if_neg c3, if_neg c4], x2⟩))))
  exact al_ite (fun c5 => al_some ⟨by rw [if_neg c1, if_neg c2, if_neg c3, if_pos c4, if_pos c5], x2⟩) (fun c5 => al_some ⟨by rw [if_neg c1, if_neg c2, if_neg c3, if_pos c4, if_neg c5], x2⟩)
theorem soundsOf_ok {h : dH} {Y : zY} {y : Int32} {st : zT2} (H : SM Y y st h) {v1 : Int32} {i : Nat} (h1 : v1.toInt = i) (hi : i < yN Y) : Al (f_X7_soundsOf v1 h) (fun o => o.1 = sdS Y y i ∧ mFr o.2 h) := by
  obtain ⟨H0, H1, H2, H3, H4, H5, -⟩ := id H
  have e1 : v1.toInt.toNat = i := by omega
  unfold f_X7_soundsOf
  rw [e1, (H4 i hi).1]
  refine al_ite (fun _ => al_oI (fun r2 g3 hr => ?_)) (fun _ => al_none)
  obtain ⟨x1, x2⟩ := saysZ_ok H (pt := 2) (by omega) (by decide) h1 (by decide) hi (r2, g3) hr
  simp only at x1 x2
  have en : g3 5 i = yB Y i := by rw [x2 5 i (by omega)]; exact (H4 i hi).2.1
  rw [en]
  unfold sdS sdV
  rw [← x1]
  exact al_ite (fun c1 => al_some ⟨by rw [if_pos c1], x2⟩) (fun c1 => al_ite (fun c3 => al_some ⟨by rw [if_neg c1, if_neg (by omega), if_pos c3], x2⟩) (fun c3 => al_ite (fun c2 => al_some ⟨by rw [if_neg c1, if_pos c2], x2⟩) (fun c2 => al_ite (fun c4 => al_some ⟨by rw [if_neg c1, if_neg c2, if_neg c3, if_pos c4], x2⟩) (fun c4 => al_ite (fun c5 => al_ite (fun _ => al_some ⟨by rw [if_neg c1, if_neg c2, if_neg c3, if_neg c4, if_pos c5], x2⟩) (fun _ => al_none)) (fun c5 => al_some ⟨by rw [if_neg c1, if_neg c2, if_neg c3, if_neg c4, if_neg c5], x2⟩)))))
end
