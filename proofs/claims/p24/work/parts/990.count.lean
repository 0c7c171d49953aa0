/-! who knows whom, counts: both -/
noncomputable section
def knS (Y : zY) (st : zT2) (i j : Nat) : Bool := if i = j then false else if (st i j).toInt < (yL Y).toInt then false else true
/-- .. with two who know each other besides, and one who is gone -/
def knM (Y : zY) (st : zT2) (ea eb gn : Int) (i j : Nat) : Bool := if i = j then false else if (i : Int) = gn then false else if (j : Int) = gn then false else if (st i j).toInt < (yL Y).toInt then decide (((i : Int) = ea ∧ (j : Int) = eb) ∨ ((i : Int) = eb ∧ (j : Int) = ea)) else true
theorem knM_none {Y : zY} {st : zT2} {i j : Nat} : knM Y st (-1) (-1) (-1) i j = knS Y st i j := by
  unfold knM knS
  by_cases c : i = j
  · rw [if_pos c, if_pos c]
  · rw [if_neg c, if_neg c, if_neg (by omega), if_neg (by omega)]
    by_cases d : (st i j).toInt < (yL Y).toInt
    · rw [if_pos d, if_pos d]
      exact decide_eq_false (by omega)
    · rw [if_neg d, if_neg d]
def isB (r : Int32) (b : Bool) : Prop := (r.toInt = 1 ∧ b = true) ∨ (r.toInt = 0 ∧ b = false)
def KnC (K : Nat → Nat → Bool) (N a : Nat) (h : dH) : Prop := ∀ (v1 v2 : Int32) (i j : Nat), v1.toInt = i → v2.toInt = j → i < N → j < N → Al (f_X3_knows a v1 v2 h) (fun r => isB r (K i j))
def KnM (K : Nat → Nat → Bool) (N : Nat) (h : dH) : Prop := ∀ (v1 v2 : Int32) (i j : Nat), v1.toInt = i → v2.toInt = j → i < N → j < N → Al (f_X7_knows v1 v2 h) (fun r => isB r (K i j))
theorem isB.t {r : Int32} (h : r.toInt = 1) : isB r true := Or.inl ⟨h, rfl⟩
theorem isB.f {r : Int32} (h : r.toInt = 0) : isB r false := Or.inr ⟨h, rfl⟩
theorem isB.no {r : Int32} {b : Bool} (q : isB r b) (z : r.toInt = 0) : ¬ b = true := by
  rcases q with q | q
  · omega
  · rw [q.2]; decide
theorem isB.yes {r : Int32} {b : Bool} (q : isB r b) (z : ¬ r.toInt = 0) : b = true := by
  rcases q with q | q
  · exact q.2
  · exact absurd q.1 z
theorem SC.kn {a : Nat} {Y : zY} {y : Int32} {st : zT2} {h : dH} (H : SC a Y y st h) : KnC (knS Y st) (yN Y) a h := by
  intro v1 v2 i j h1 h2 hi hj
  obtain ⟨H0, H1, H2, H3, H4, H5, -⟩ := id H
  have e1 : v1.toInt.toNat = i := by omega
  have e2 : v2.toInt.toNat = j := by omega
  unfold f_X3_knows knS
  rw [e1, e2, H1, H5 i j hi hj]
  refine al_ite (fun c => al_some ?_) (fun c => al_ite (fun _ => al_ite (fun _ => al_ite (fun d => al_some ?_) (fun d => al_some ?_)) (fun _ => al_none)) (fun _ => al_none))
  · rw [if_pos (by omega)]; exact isB.f ti0
  · rw [if_neg (by omega), if_pos d]; exact isB.f ti0
  · rw [if_neg (by omega), if_neg d]; exact isB.t ti1
theorem kM_self {Y : zY} {st : zT2} {ea eb gn : Int} {i j : Nat} (h : i = j) : knM Y st ea eb gn i j = false := if_pos h
theorem kM_gi {Y : zY} {st : zT2} {ea eb gn : Int} {i j : Nat} (h : ¬ i = j) (h2 : (i : Int) = gn) : knM Y st ea eb gn i j = false := (if_neg h).trans (if_pos h2)
theorem kM_gj {Y : zY} {st : zT2} {ea eb gn : Int} {i j : Nat} (h : ¬ i = j) (h2 : ¬ (i : Int) = gn) (h3 : (j : Int) = gn) : knM Y st ea eb gn i j = false := (if_neg h).trans ((if_neg h2).trans (if_pos h3))
theorem kM_lt {Y : zY} {st : zT2} {ea eb gn : Int} {i j : Nat} (h : ¬ i = j) (h2 : ¬ (i : Int) = gn) (h3 : ¬ (j : Int) = gn) (h4 : (st i j).toInt < (yL Y).toInt) : knM Y st ea eb gn i j = decide (((i : Int) = ea ∧ (j : Int) = eb) ∨ ((i : Int) = eb ∧ (j : Int) = ea)) := (if_neg h).trans ((if_neg h2).trans ((if_neg h3).trans (if_pos h4)))
theorem kM_ge {Y : zY} {st : zT2} {ea eb gn : Int} {i j : Nat} (h : ¬ i = j) (h2 : ¬ (i : Int) = gn) (h3 : ¬ (j : Int) = gn) (h4 : ¬ (st i j).toInt < (yL Y).toInt) : knM Y st ea eb gn i j = true := (if_neg h).trans ((if_neg h2).trans ((if_neg h3).trans (if_neg h4)))
theorem SM.knm {Y : zY} {y : Int32} {st : zT2} {h : dH} (H : SM Y y st h) {ea eb gn : Int} (h29 : (h 0 29).toInt = ea) (h30 : (h 0 30).toInt = eb) (h31 : (h 0 31).toInt = gn) : KnM (knM Y st ea eb gn) (yN Y) h := by
  intro v1 v2 i j h1 h2 hi hj
  obtain ⟨H0, H1, H2, H3, H4, H5, -⟩ := id H
  unfold f_X7_knows
  rw [h29, h30, h31, H1, h1, h2]
  refine al_ite (fun c => al_some ?_) (fun c => al_ite (fun c2 => al_some ?_) (fun c2 => al_ite (fun c3 => al_some ?_) (fun c3 => al_oP (fun r hr => ?_))))
  · rw [kM_self (by omega)]; exact isB.f ti0
  · rw [kM_gi (by omega) c2]; exact isB.f ti0
  · rw [kM_gj (by omega) c2 c3]; exact isB.f ti0
  · have er := strengthOf_ok h1 h2 (by omega) (by omega) r hr
    rw [H5 i j hi hj] at er
    subst er
    refine al_ite (fun d => ?_) (fun d => al_some ?_)
    · rw [kM_lt (by omega) c2 c3 d]
      have yes : ((i : Int) = ea ∧ (j : Int) = eb) ∨ ((i : Int) = eb ∧ (j : Int) = ea) → Al (some (1 : Int32)) (fun r => isB r (decide (((i : Int) = ea ∧ (j : Int) = eb) ∨ ((i : Int) = eb ∧ (j : Int) = ea)))) := fun z => al_some (by rw [decide_eq_true z]; exact isB.t ti1)
      have no : ¬ (((i : Int) = ea ∧ (j : Int) = eb) ∨ ((i : Int) = eb ∧ (j : Int) = ea)) → Al (some (0 : Int32)) (fun r => isB r (decide (((i : Int) = ea ∧ (j : Int) = eb) ∨ ((i : Int) = eb ∧ (j : Int) = ea)))) := fun z => al_some (by rw [decide_eq_false z]; exact isB.f ti0)
      exact al_ite (fun q1 => al_ite (fun q2 => yes (Or.inl ⟨q1, q2⟩)) (fun q2 => al_ite (fun q3 => al_ite (fun q4 => yes (Or.inr ⟨q3, q4⟩)) (fun q4 => no (by omega))) (fun q3 => no (by omega)))) (fun q1 => al_ite (fun q3 => al_ite (fun q4 => yes (Or.inr ⟨q3, q4⟩)) (fun q4 => no (by omega))) (fun q3 => no (by omega)))
    · rw [kM_ge (by omega) c2 c3 d]; exact isB.t ti1
theorem KnM.congr {K L : Nat → Nat → Bool} {N : Nat} {h : dH} (q : KnM K N h) (e : ∀ i j, i < N → j < N → K i j = L i j) : KnM L N h := by
  intro v1 v2 i j h1 h2 hi hj
  rw [← e i j hi hj]
  exact q v1 v2 i j h1 h2 hi hj
/-- two in thought, and one gone: none of them -/
def mNo (h : dH) : Prop := (h 0 29).toInt = -1 ∧ (h 0 30).toInt = -1 ∧ (h 0 31).toInt = -1
theorem SM.kn {Y : zY} {y : Int32} {st : zT2} {h : dH} (H : SM Y y st h) (n : mNo h) : KnM (knS Y st) (yN Y) h := (H.knm n.1 n.2.1 n.2.2).congr (fun _ _ _ _ => knM_none)
/-! FRIENDS -/
def frS (K : Nat → Nat → Bool) (N : Nat) : Int32 := fOut (fun i j s => if K i j = true then s + 1 else s) N N 0
section FR
variable {K : Nat → Nat → Bool} {N a : Nat} {h : dH} {P : Int32 → Prop} {k : Int32 → Option Int32}
theorem friends_16 (hK : KnC K N a h) (hN : (h a 2).toInt = N) (hN8 : N ≤ 8) {v2 : Int32} {i : Nat} (h2 : v2.toInt = i) (hi : i < N) {s0 : Int32} (Kk : Al (k (fIn (fun i j s => if K i j = true then s + 1 else s) i N s0)) P) : ∀ (n : Nat) (v1 v3 : Int32), i < v3.toInt → v3.toInt ≤ N → v1 = fIn (fun i j s => if K i j = true then s + 1 else s) i v3.toInt.toNat s0 → Al (l_X3_friends_16 a v2 h k n v1 v3) P
  | 0, _, _, _, _, _ => al_none
  | n + 1, v1, v3, p0, p1, e => by
    rw [l_X3_friends_16, hN]
    have t3 := inc1 (v := v3) (by omega)
    have en : (v3 + 1).toInt.toNat = v3.toInt.toNat + 1 := by omega
    refine al_ite (fun c => al_oP (fun r hr => ?_)) (fun c => ?_)
    · have q := hK v2 v3 i v3.toInt.toNat h2 (by omega) hi (by omega) r hr
      refine al_ite (fun z => friends_16 hK hN hN8 h2 hi Kk n _ _ (by omega) (by omega) ?_) (fun z => friends_16 hK hN hN8 h2 hi Kk n _ _ (by omega) (by omega) ?_)
      · rw [en, fIn, if_pos (by omega), if_neg (q.no z), e]
      · rw [en, fIn, if_pos (by omega), if_pos (q.yes z), e]
    · rw [e, show v3.toInt.toNat = N by omega]; exact Kk
theorem friends_4 (hK : KnC K N a h) (hN : (h a 2).toInt = N) (hN8 : N ≤ 8) (Kk : Al (k (frS K N)) P) : ∀ (n : Nat) (v1 v2 : Int32), 0 ≤ v2.toInt → v2.toInt ≤ N → v1 = fOut (fun i j s => if K i j = true then s + 1 else s) N v2.toInt.toNat 0 → Al (l_X3_friends_4 a h k n v1 v2) P
  | 0, _, _, _, _, _ => al_none
  | n + 1, v1, v2, p0, p1, e => by
    rw [l_X3_friends_4, hN]
    have t3 := inc1 (v := v2) (by omega)
    have en : (v2 + 1).toInt.toNat = v2.toInt.toNat + 1 := by omega
    refine al_ite (fun c => friends_16 (s0 := v1) hK hN hN8 (i := v2.toInt.toNat) (by omega) (by omega) ?_ _ v1 (v2 + 1) (by omega) (by omega) ?_) (fun c => ?_)
    · exact friends_4 hK hN hN8 Kk n _ (v2 + 1) (by omega) (by omega) (by rw [en, fOut, e])
    · rw [fIn_le _ (by omega)]
    · rw [e, show v2.toInt.toNat = N by omega]; exact Kk
theorem friends_ok (hK : KnC K N a h) (hN : (h a 2).toInt = N) (hN8 : N ≤ 8) : Al (f_X3_friends a h) (fun r => r = frS K N) := friends_4 (P := fun r => r = frS K N) hK hN hN8 (al_some rfl) _ 0 0 (by decide) (by rw [ti0]; omega) rfl
theorem mfriends_16 (hK : KnM K N h) (hN : (h 0 13).toInt = N) (hN8 : N ≤ 8) {v2 : Int32} {i : Nat} (h2 : v2.toInt = i) (hi : i < N) {s0 : Int32} (Kk : Al (k (fIn (fun i j s => if K i j = true then s + 1 else s) i N s0)) P) : ∀ (n : Nat) (v1 v3 : Int32), i < v3.toInt → v3.toInt ≤ N → v1 = fIn (fun i j s => if K i j = true then s + 1 else s) i v3.toInt.toNat s0 → Al (l_X7_friends_16 v2 h k n v1 v3) P
  | 0, _, _, _, _, _ => al_none
  | n + 1, v1, v3, p0, p1, e => by
    rw [l_X7_friends_16, hN]
    have t3 := inc1 (v := v3) (by omega)
    have en : (v3 + 1).toInt.toNat = v3.toInt.toNat + 1 := by omega
    refine al_ite (fun c => al_oP (fun r hr => ?_)) (fun c => ?_)
    · have q := hK v2 v3 i v3.toInt.toNat h2 (by omega) hi (by omega) r hr
      refine al_ite (fun z => mfriends_16 hK hN hN8 h2 hi Kk n _ _ (by omega) (by omega) ?_) (fun z => mfriends_16 hK hN hN8 h2 hi Kk n _ _ (by omega) (by omega) ?_)
      · rw [Int32.add_zero, en, fIn, if_pos (by omega), if_neg (q.no z), e]
      · rw [en, fIn, if_pos (by omega), if_pos (q.yes z), e]
    · rw [e, show v3.toInt.toNat = N by omega]; exact Kk
theorem mfriends_4 (hK : KnM K N h) (hN : (h 0 13).toInt = N) (hN8 : N ≤ 8) (Kk : Al (k (frS K N)) P) : ∀ (n : Nat) (v1 v2 : Int32), 0 ≤ v2.toInt → v2.toInt ≤ N → v1 = fOut (fun i j s => if K i j = true then s + 1 else s) N v2.toInt.toNat 0 → Al (l_X7_friends_4 h k n v1 v2) P
  | 0, _, _, _, _, _ => al_none
  | n + 1, v1, v2, p0, p1, e => by
    rw [l_X7_friends_4, hN]
    have t3 := inc1 (v := v2) (by omega)
    have en : (v2 + 1).toInt.toNat = v2.toInt.toNat + 1 := by omega
    refine al_ite (fun c => mfriends_16 (s0 := v1) hK hN hN8 (i := v2.toInt.toNat) (by omega) (by omega) ?_ _ v1 (v2 + 1) (by omega) (by omega) ?_) (fun c => ?_)
    · exact mfriends_4 hK hN hN8 Kk n _ (v2 + 1) (by omega) (by omega) (by rw [en, fOut, e])
    · rw [fIn_le _ (by omega)]
    · rw [e, show v2.toInt.toNat = N by omega]; exact Kk
theorem mfriends_ok (hK : KnM K N h) (hN : (h 0 13).toInt = N) (hN8 : N ≤ 8) : Al (f_X7_friends h) (fun r => r = frS K N) := mfriends_4 (P := fun r => r = frS K N) hK hN hN8 (al_some rfl) _ 0 0 (by decide) (by rw [ti0]; omega) rfl
/-! how many one knows -/
theorem acq_4 (hK : KnC K N a h) (hN : (h a 2).toInt = N) (hN8 : N ≤ 8) {v1 : Int32} {i : Nat} (h2 : v1.toInt = i) (hi : i < N) (Kk : Al (k (cnt32 (K i) N)) P) : ∀ (n : Nat) (v2 v3 : Int32), 0 ≤ v3.toInt → v3.toInt ≤ N → v2 = cnt32 (K i) v3.toInt.toNat → Al (l_X3_acquaintances_4 a v1 h k n v2 v3) P
  | 0, _, _, _, _, _ => al_none
  | n + 1, v2, v3, p0, p1, e => by
    rw [l_X3_acquaintances_4, hN]
    have t3 := inc1 (v := v3) (by omega)
    have en : (v3 + 1).toInt.toNat = v3.toInt.toNat + 1 := by omega
    refine al_ite (fun c => al_oP (fun r hr => ?_)) (fun c => ?_)
    · have q := hK v1 v3 i v3.toInt.toNat h2 (by omega) hi (by omega) r hr
      refine al_ite (fun z => acq_4 hK hN hN8 h2 hi Kk n _ _ (by omega) (by omega) ?_) (fun z => acq_4 hK hN hN8 h2 hi Kk n _ _ (by omega) (by omega) ?_)
      · rw [en, cnt32, if_neg (q.no z), e]
      · rw [en, cnt32, if_pos (q.yes z), e]
    · rw [e, show v3.toInt.toNat = N by omega]; exact Kk
theorem acq_ok (hK : KnC K N a h) (hN : (h a 2).toInt = N) (hN8 : N ≤ 8) {v1 : Int32} {i : Nat} (h2 : v1.toInt = i) (hi : i < N) : Al (f_X3_acquaintances a v1 h) (fun r => r = cnt32 (K i) N) := acq_4 (P := fun r => r = cnt32 (K i) N) hK hN hN8 h2 hi (al_some rfl) _ 0 0 (by decide) (by rw [ti0]; omega) rfl
theorem macq (hK : KnM K N h) (hN : (h 0 13).toInt = N) (hN8 : N ≤ 8) {v1 : Int32} {i : Nat} (h2 : v1.toInt = i) (hi : i < N) {Q : Int32 × dH → Prop} {kk : Int32 → Option (Int32 × dH)} (Kk : Al (kk (cnt32 (K i) N)) Q) : ∀ (n : Nat) (v2 v3 : Int32), 0 ≤ v3.toInt → v3.toInt ≤ N → v2 = cnt32 (K i) v3.toInt.toNat → Al (l_X7_told_171 v1 h kk n v2 v3) Q
  | 0, _, _, _, _, _ => al_none
  | n + 1, v2, v3, p0, p1, e => by
    rw [l_X7_told_171, hN]
    have t3 := inc1 (v := v3) (by omega)
    have en : (v3 + 1).toInt.toNat = v3.toInt.toNat + 1 := by omega
    refine al_ite (fun c => al_oP (fun r hr => ?_)) (fun c => ?_)
    · have q := hK v1 v3 i v3.toInt.toNat h2 (by omega) hi (by omega) r hr
      refine al_ite (fun z => macq hK hN hN8 h2 hi Kk n _ _ (by omega) (by omega) ?_) (fun z => macq hK hN hN8 h2 hi Kk n _ _ (by omega) (by omega) ?_)
      · rw [Int32.add_zero, en, cnt32, if_neg (q.no z), e]
      · rw [en, cnt32, if_pos (q.yes z), e]
    · rw [e, show v3.toInt.toNat = N by omega]; exact Kk
end FR
/-! all strengths -/
def allS (st : zT2) (N : Nat) : Int32 := fOut (fun i j s => s + st i j) N N 0
section AL
variable {Y : zY} {y : Int32} {st : zT2} {a : Nat} {h : dH} {P : Int32 → Prop} {k : Int32 → Option Int32}
theorem allS_16 (H : SC a Y y st h) {v2 : Int32} {i : Nat} (h2 : v2.toInt = i) (hi : i < yN Y) {s0 : Int32} (Kk : Al (k (fIn (fun i j s => s + st i j) i (yN Y) s0)) P) : ∀ (n : Nat) (v1 v3 : Int32), i < v3.toInt → v3.toInt ≤ yN Y → v1 = fIn (fun i j s => s + st i j) i v3.toInt.toNat s0 → Al (l_X3_allStrength_16 a v2 h k n v1 v3) P
  | 0, _, _, _, _, _ => al_none
  | n + 1, v1, v3, p0, p1, e => by
    obtain ⟨H0, H1, H2, H3, H4, H5, -⟩ := id H
    rw [l_X3_allStrength_16, H2]
    have t3 := inc1 (v := v3) (by omega)
    have en : (v3 + 1).toInt.toNat = v3.toInt.toNat + 1 := by omega
    refine al_ite (fun c => al_ite (fun _ => al_ite (fun _ => allS_16 H h2 hi Kk n _ _ (by omega) (by omega) ?_) (fun _ => al_none)) (fun _ => al_none)) (fun c => ?_)
    · rw [en, fIn, if_pos (by omega), e, show v2.toInt.toNat = i by omega, H5 i _ hi (by omega)]
    · rw [e, show v3.toInt.toNat = yN Y by omega]; exact Kk
theorem allS_4 (H : SC a Y y st h) (Kk : Al (k (allS st (yN Y))) P) : ∀ (n : Nat) (v1 v2 : Int32), 0 ≤ v2.toInt → v2.toInt ≤ yN Y → v1 = fOut (fun i j s => s + st i j) (yN Y) v2.toInt.toNat 0 → Al (l_X3_allStrength_4 a h k n v1 v2) P
  | 0, _, _, _, _, _ => al_none
  | n + 1, v1, v2, p0, p1, e => by
    have H3 := H.2.2.2.1
    rw [l_X3_allStrength_4, H.2.2.1]
    have t3 := inc1 (v := v2) (by omega)
    have en : (v2 + 1).toInt.toNat = v2.toInt.toNat + 1 := by omega
    refine al_ite (fun c => allS_16 (s0 := v1) H (i := v2.toInt.toNat) (by omega) (by omega) ?_ _ v1 (v2 + 1) (by omega) (by omega) ?_) (fun c => ?_)
    · exact allS_4 H Kk n _ (v2 + 1) (by omega) (by omega) (by rw [en, fOut, e])
    · rw [fIn_le _ (by omega)]
    · rw [e, show v2.toInt.toNat = yN Y by omega]; exact Kk
theorem allS_ok (H : SC a Y y st h) : Al (f_X3_allStrength a h) (fun r => r = allS st (yN Y)) := allS_4 (P := fun r => r = allS st (yN Y)) H (al_some rfl) _ 0 0 (by decide) (by rw [ti0]; omega) rfl
theorem mallS_16 (H : SM Y y st h) {v2 : Int32} {i : Nat} (h2 : v2.toInt = i) (hi : i < yN Y) {s0 : Int32} (Kk : Al (k (fIn (fun i j s => s + st i j) i (yN Y) s0)) P) : ∀ (n : Nat) (v1 v3 : Int32), i < v3.toInt → v3.toInt ≤ yN Y → v1 = fIn (fun i j s => s + st i j) i v3.toInt.toNat s0 → Al (l_X7_strengthAll_16 v2 h k n v1 v3) P
  | 0, _, _, _, _, _ => al_none
  | n + 1, v1, v3, p0, p1, e => by
    obtain ⟨H0, H1, H2, H3, H4, H5, -⟩ := id H
    rw [l_X7_strengthAll_16, H2]
    have t3 := inc1 (v := v3) (by omega)
    have en : (v3 + 1).toInt.toNat = v3.toInt.toNat + 1 := by omega
    refine al_ite (fun c => al_oP (fun r hr => mallS_16 H h2 hi Kk n _ _ (by omega) (by omega) ?_)) (fun c => ?_)
    · have er := strengthOf_ok h2 (i := i) (j := v3.toInt.toNat) (by omega) (by omega) (by omega) r hr
      rw [en, fIn, if_pos (by omega), e, er, H5 i _ hi (by omega)]
    · rw [e, show v3.toInt.toNat = yN Y by omega]; exact Kk
theorem mallS_4 (H : SM Y y st h) (Kk : Al (k (allS st (yN Y))) P) : ∀ (n : Nat) (v1 v2 : Int32), 0 ≤ v2.toInt → v2.toInt ≤ yN Y → v1 = fOut (fun i j s => s + st i j) (yN Y) v2.toInt.toNat 0 → Al (l_X7_strengthAll_4 h k n v1 v2) P
  | 0, _, _, _, _, _ => al_none
  | n + 1, v1, v2, p0, p1, e => by
    have H3 := H.2.2.2.1
    rw [l_X7_strengthAll_4, H.2.2.1]
    have t3 := inc1 (v := v2) (by omega)
    have en : (v2 + 1).toInt.toNat = v2.toInt.toNat + 1 := by omega
    refine al_ite (fun c => mallS_16 (s0 := v1) H (i := v2.toInt.toNat) (by omega) (by omega) ?_ _ v1 (v2 + 1) (by omega) (by omega) ?_) (fun c => ?_)
    · exact mallS_4 H Kk n _ (v2 + 1) (by omega) (by omega) (by rw [en, fOut, e])
    · rw [fIn_le _ (by omega)]
    · rw [e, show v2.toInt.toNat = yN Y by omega]; exact Kk
theorem mallS_ok (H : SM Y y st h) : Al (f_X7_strengthAll h) (fun r => r = allS st (yN Y)) := mallS_4 (P := fun r => r = allS st (yN Y)) H (al_some rfl) _ 0 0 (by decide) (by rw [ti0]; omega) rfl
end AL
end
