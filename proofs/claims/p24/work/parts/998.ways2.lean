/-! the reference's companies, longest way; both alike -/
noncomputable section
section WB
variable {K : Nat → Nat → Bool} {N : Nat} {h : dH}
theorem mcomp_29 (W : WQ K N h) {v2 : Int32} {a : Nat} (h2 : v2.toInt = a) (ha : a < N) {b0 : Bool} {k : Int32 → Option Int32} {P : Int32 → Prop} (Kk : ∀ v, isB v (b0 && !exI (fun b => decide (¬ fw K N a b = -1)) a) → Al (k v) P) : ∀ (n : Nat) (v3 v4 : Int32), 0 ≤ v4.toInt → v4.toInt ≤ a → isB v3 (b0 && !exI (fun b => decide (¬ fw K N a b = -1)) v4.toInt.toNat) → Al (l_X7_companies_29 v2 h k n v3 v4) P
  | 0, _, _, _, _, _ => al_none
  | n + 1, v3, v4, p0, p1, hb => by
    obtain ⟨W1, W2, W3⟩ := id W
    rw [l_X7_companies_29, h2]
    have t := inc1 (v := v4) (by omega)
    obtain ⟨b, hbb⟩ : ∃ b, v4.toInt.toNat = b := ⟨_, rfl⟩
    have en : (v4 + 1).toInt.toNat = b + 1 := by omega
    rw [hbb] at hb
    refine al_ite (fun c => ?_) (fun c => Kk v3 (by rw [show b = a by omega] at hb; exact hb))
    have go : ∀ x : Int32, isB x (b0 && !exI (fun b => decide (¬ fw K N a b = -1)) (b + 1)) → Al (l_X7_companies_29 v2 h k n x (v4 + 1)) P := fun x hx => mcomp_29 W h2 ha Kk n x (v4 + 1) (by omega) (by omega) (by rw [en]; exact hx)
    obtain ⟨-, ix⟩ := ix8 h2 (show v4.toInt = b by omega) (by omega) (by omega)
    rw [ix]
    refine al_ite (fun z => go 0 (Or.inr ⟨ti0, ?_⟩)) (fun z => al_ite (fun _ => al_ite (fun q => go 1 (Or.inl ⟨ti1, ?_⟩)) (fun q => go 0 (Or.inr ⟨ti0, ?_⟩))) (fun _ => al_none))
    · have hf := hb.no z
      rw [exI]
      cases hb0 : b0 with
      | false => rfl
      | true =>
        rw [hb0] at hf
        cases he : exI (fun b => decide (¬ fw K N a b = -1)) b with
        | true => rfl
        | false => rw [he] at hf; exact absurd rfl hf
    · have ht := hb.yes z
      rw [W3 a b ha (by omega)] at q
      rw [exI, decide_eq_false (fun w => w q), Bool.or_false]
      exact ht
    · rw [W3 a b ha (by omega)] at q
      rw [exI, decide_eq_true q, Bool.or_true, Bool.not_true, Bool.and_false]
def isFm (K : Nat → Nat → Bool) (N : Nat) (gn : Int) (a : Nat) : Bool := decide (¬ (a : Int) = gn) && !exI (fun b => decide (¬ fw K N a b = -1)) a
theorem mcomp_4 (W : WQ K N h) {gn : Int} (hg : (h 0 31).toInt = gn) : ∀ (n : Nat) (v1 v2 : Int32), 0 ≤ v2.toInt → v2.toInt ≤ N → v1 = cnt32 (isFm K N gn) v2.toInt.toNat → Al (l_X7_companies_4 h (fun v => some v) n v1 v2) (fun r => r = cnt32 (isFm K N gn) N)
  | 0, _, _, _, _, _ => al_none
  | n + 1, v1, v2, p0, p1, e => by
    obtain ⟨W1, W2, W3⟩ := id W
    rw [l_X7_companies_4, W1, hg]
    have t := inc1 (v := v2) (by omega)
    obtain ⟨a, ha⟩ : ∃ a, v2.toInt.toNat = a := ⟨_, rfl⟩
    have en : (v2 + 1).toInt.toNat = a + 1 := by omega
    have h2 : v2.toInt = a := by omega
    rw [ha] at e
    refine al_ite (fun c => ?_) (fun c => al_some (by rw [e, show a = N by omega]))
    have fin : ∀ (b0 : Bool), b0 = decide (¬ (a : Int) = gn) → ∀ v : Int32, isB v (b0 && !exI (fun b => decide (¬ fw K N a b = -1)) a) → Al (if v.toInt = 0 then (l_X7_companies_4 h (fun v => some v) n (v1 + 0) (v2 + 1)) else (l_X7_companies_4 h (fun v => some v) n (v1 + 1) (v2 + 1))) (fun r => r = cnt32 (isFm K N gn) N) := by
      intro b0 hb0 v hv
      have hv' : isB v (isFm K N gn a) := by unfold isFm; rw [← hb0]; exact hv
      refine al_ite (fun z => mcomp_4 W hg n _ (v2 + 1) (by omega) (by omega) ?_) (fun z => mcomp_4 W hg n _ (v2 + 1) (by omega) (by omega) ?_)
      · rw [Int32.add_zero, en, cnt32, if_neg (hv'.no z), e]
      · rw [en, cnt32, if_pos (hv'.yes z), e]
    refine al_ite (fun z => mcomp_29 W h2 (by omega) (b0 := false) (fin false (decide_eq_false (by omega)).symm) fuel0 0 0 (by decide) (by rw [ti0]; omega) (Or.inr ⟨ti0, rfl⟩)) (fun z => mcomp_29 W h2 (by omega) (b0 := true) (fin true (decide_eq_true (by omega)).symm) fuel0 1 0 (by decide) (by rw [ti0]; omega) (Or.inl ⟨ti1, by rw [ti0]; rfl⟩))
theorem mcomp_ok (W : WQ K N h) {gn : Int} (hg : (h 0 31).toInt = gn) : Al (f_X7_companies h) (fun r => r = cnt32 (isFm K N gn) N) :=
  mcomp_4 W hg _ 0 0 (by decide) (by rw [ti0]; omega) rfl
theorem mlarge_17 (W : WQ K N h) {v2 : Int32} {a : Nat} (h2 : v2.toInt = a) (ha : a < N) {k : Int32 → Option Int32} {P : Int32 → Prop} (Kk : ∀ v : Int32, v.toInt = (cmS K N a : Int) → Al (k v) P) : ∀ (n : Nat) (v3 v4 : Int32), 0 ≤ v4.toInt → v4.toInt ≤ N → v3.toInt = cntB (fun b => decide (¬ fw K N a b = -1)) v4.toInt.toNat → Al (l_X7_largest_17 v2 h k n v3 v4) P
  | 0, _, _, _, _, _ => al_none
  | n + 1, v3, v4, p0, p1, e => by
    obtain ⟨W1, W2, W3⟩ := id W
    rw [l_X7_largest_17, W1]
    have t := inc1 (v := v4) (by omega)
    obtain ⟨b, hb⟩ : ∃ b, v4.toInt.toNat = b := ⟨_, rfl⟩
    have en : (v4 + 1).toInt.toNat = b + 1 := by omega
    rw [hb] at e
    have bl := cntB_le (f := fun b => decide (¬ fw K N a b = -1)) b
    refine al_ite (fun c => ?_) (fun c => Kk v3 (by unfold cmS; rw [e, show b = N by omega]))
    obtain ⟨-, ix⟩ := ix8 h2 (show v4.toInt = b by omega) (by omega) (by omega)
    rw [ix, W3 a b ha (by omega)]
    refine al_ite (fun _ => al_ite (fun z => mlarge_17 W h2 ha Kk n _ (v4 + 1) (by omega) (by omega) ?_) (fun z => mlarge_17 W h2 ha Kk n _ (v4 + 1) (by omega) (by omega) ?_)) (fun _ => al_none)
    · rw [Int32.add_zero, en, cntB, if_neg (by rw [decide_eq_true_eq]; exact fun w => w z), e]
    · rw [en, cntB, if_pos (decide_eq_true z), inc1 (by omega), e]; rfl
theorem mlarge_4 (W : WQ K N h) : ∀ (n : Nat) (v1 v2 : Int32), 0 ≤ v2.toInt → v2.toInt ≤ N → v1.toInt = mxN (cmS K N) v2.toInt.toNat → Al (l_X7_largest_4 h (fun v => some v) n v1 v2) (fun r => r.toInt = mxN (cmS K N) N)
  | 0, _, _, _, _, _ => al_none
  | n + 1, v1, v2, p0, p1, e => by
    obtain ⟨W1, W2, W3⟩ := id W
    rw [l_X7_largest_4, W1]
    have t := inc1 (v := v2) (by omega)
    obtain ⟨a, ha⟩ : ∃ a, v2.toInt.toNat = a := ⟨_, rfl⟩
    have en : (v2 + 1).toInt.toNat = a + 1 := by omega
    rw [ha] at e
    refine al_ite (fun c => mlarge_17 W (a := a) (by omega) (by omega) (fun v hv => ?_) fuel0 0 0 (by decide) (by rw [ti0]; omega) (by rw [ti0]; rfl)) (fun c => al_some (by rw [e, show a = N by omega]))
    refine al_ite (fun z => mlarge_4 W n _ (v2 + 1) (by omega) (by omega) ?_) (fun z => mlarge_4 W n _ (v2 + 1) (by omega) (by omega) ?_)
    · rw [en, mxN, if_pos (by omega)]; exact hv
    · rw [en, mxN, if_neg (by omega)]; exact e
theorem mlarge_ok (W : WQ K N h) : Al (f_X7_largest h) (fun r => r.toInt = mxN (cmS K N) N) :=
  mlarge_4 W _ 0 0 (by decide) (by rw [ti0]; omega) rfl
/-- the largest of all, in either order -/
def isMa (val : Nat → Nat → Int) (N : Nat) (M : Int) : Prop := (∀ i j, i < N → j < N → val i j ≤ M) ∧ 0 ≤ M ∧ (M = 0 ∨ ∃ i j, i < N ∧ j < N ∧ val i j = M)
theorem isMa.mx {val : Nat → Nat → Int} {M : Int} (h : isMa val N M) (hs : ∀ i j, i < N → j < N → val i j = val j i) (h0 : ∀ i, i < N → val i i = 0) : isMx val N M := by
  obtain ⟨a1, a2, a3⟩ := h
  refine ⟨fun i j h1 h2 => a1 i j (by omega) h2, a2, ?_⟩
  rcases a3 with q | ⟨i, j, q1, q2, q3⟩
  · exact Or.inl q
  · rcases Nat.lt_trichotomy i j with z | z | z
    · exact Or.inr ⟨i, j, z, q2, q3⟩
    · subst z
      rw [h0 i q1] at q3
      exact Or.inl q3.symm
    · exact Or.inr ⟨j, i, z, q1, by rw [hs j i q2 q1]; exact q3⟩
theorem mlong_15 (W : WQ K N h) {v1 v3 : Int32} {i : Nat} (h3 : v3.toInt = i) (hi : i < N) {k : Int32 → Option Int32} {P : Int32 → Prop} {m0 : Int} (Kk : ∀ v : Int32, m0 ≤ v.toInt → (v.toInt = m0 ∨ ∃ j, j < N ∧ vlS K N v1.toInt i j = v.toInt) → (∀ j, j < N → vlS K N v1.toInt i j ≤ v.toInt) → Al (k v) P) : ∀ (n : Nat) (v2 v4 : Int32), 0 ≤ v4.toInt → v4.toInt ≤ N → m0 ≤ v2.toInt → (v2.toInt = m0 ∨ ∃ j, j < N ∧ vlS K N v1.toInt i j = v2.toInt) → (∀ j, j < v4.toInt.toNat → vlS K N v1.toInt i j ≤ v2.toInt) → Al (l_X7_longest_15 v1 v3 h k n v2 v4) P
  | 0, _, _, _, _, _, _, _ => al_none
  | n + 1, v2, v4, p0, p1, hm, ho, hb => by
    obtain ⟨W1, W2, W3⟩ := id W
    rw [l_X7_longest_15, W1]
    have t := inc1 (v := v4) (by omega)
    obtain ⟨j, hj⟩ : ∃ j, v4.toInt.toNat = j := ⟨_, rfl⟩
    have en : (v4 + 1).toInt.toNat = j + 1 := by omega
    rw [hj] at hb
    refine al_ite (fun c => ?_) (fun c => Kk v2 hm ho (fun q h1 => hb q (by omega)))
    obtain ⟨-, ix⟩ := ix8 h3 (show v4.toInt = j by omega) (by omega) (by omega)
    rw [ix]
    have w := W3 i j hi (by omega)
    have go : ∀ x : Int32, x.toInt = vlS K N v1.toInt i j → Al (if v2.toInt < x.toInt then (l_X7_longest_15 v1 v3 h k n x (v4 + 1)) else (l_X7_longest_15 v1 v3 h k n v2 (v4 + 1))) P := by
      intro x hx
      refine al_ite (fun z => mlong_15 W h3 hi Kk n _ (v4 + 1) (by omega) (by omega) (by omega) (Or.inr ⟨j, by omega, hx.symm⟩) (fun q h1 => ?_)) (fun z => mlong_15 W h3 hi Kk n _ (v4 + 1) (by omega) (by omega) hm ho (fun q h1 => ?_))
      · by_cases e : q = j
        · rw [e]; omega
        · have := hb q (by omega); omega
      · by_cases e : q = j
        · rw [e]; omega
        · exact hb q (by omega)
    refine al_ite (fun _ => al_ite (fun z => go v1 ?_) (fun z => al_ite (fun _ => go _ ?_) (fun _ => al_none))) (fun _ => al_none)
    · unfold vlS; rw [if_pos (by omega)]
    · unfold vlS; rw [if_neg (by omega)]; exact w
theorem mlong_4 (W : WQ K N h) {v1 : Int32} : ∀ (n : Nat) (v2 v3 : Int32), 0 ≤ v3.toInt → v3.toInt ≤ N → 0 ≤ v2.toInt → (v2.toInt = 0 ∨ ∃ i j, i < N ∧ j < N ∧ vlS K N v1.toInt i j = v2.toInt) → (∀ i j, i < v3.toInt.toNat → j < N → vlS K N v1.toInt i j ≤ v2.toInt) → Al (l_X7_longest_4 v1 h (fun v => some v) n v2 v3) (fun r => isMa (vlS K N v1.toInt) N r.toInt)
  | 0, _, _, _, _, _, _, _ => al_none
  | n + 1, v2, v3, p0, p1, hm, ho, hb => by
    obtain ⟨W1, W2, W3⟩ := id W
    rw [l_X7_longest_4, W1]
    have t := inc1 (v := v3) (by omega)
    obtain ⟨i, hi⟩ : ∃ i, v3.toInt.toNat = i := ⟨_, rfl⟩
    have en : (v3 + 1).toInt.toNat = i + 1 := by omega
    rw [hi] at hb
    refine al_ite (fun c => ?_) (fun c => al_some ⟨fun a b h1 h2 => hb a b (by omega) h2, hm, ho⟩)
    refine mlong_15 W (i := i) (by omega) (by omega) (m0 := v2.toInt) (fun v q1 q2 q3 => ?_) fuel0 v2 0 (by decide) (by rw [ti0]; omega) (Int.le_refl _) (Or.inl rfl) (fun j h1 => absurd h1 (by rw [ti0]; exact Nat.not_lt_zero j))
    refine mlong_4 W n v (v3 + 1) (by omega) (by omega) (by omega) ?_ (fun a b h1 h2 => ?_)
    · rcases q2 with q2 | ⟨j, j1, j2⟩
      · rcases ho with o | ⟨a, b, o1, o2, o3⟩
        · exact Or.inl (by omega)
        · exact Or.inr ⟨a, b, o1, o2, by omega⟩
      · exact Or.inr ⟨i, j, by omega, j1, j2⟩
    · by_cases e : a = i
      · rw [e]; exact q3 b h2
      · have := hb a b (by omega) h2; omega
theorem fw_sym (hS : ∀ i j, i < N → j < N → K i j = true → K j i = true) {i j : Nat} (hi : i < N) (hj : j < N) : fw K N i j = fw K N j i := (fw_isD hi hj).uniq (isD_sym hS hj hi (fw_isD hj hi))
theorem mlong_ok (W : WQ K N h) (hS : ∀ i j, i < N → j < N → K i j = true → K j i = true) {v1 : Int32} : Al (f_X7_longest v1 h) (fun r => isMx (vlS K N v1.toInt) N r.toInt) := by
  refine al_mono (mlong_4 W _ 0 0 (by decide) (by rw [ti0]; omega) (by decide) (Or.inl ti0) (fun i j h => absurd h (by rw [ti0]; exact Nat.not_lt_zero i))) (fun r hr => ?_)
  refine hr.mx (fun i j hi hj => ?_) (fun i hi => ?_)
  · unfold vlS; rw [fw_sym hS hi hj]
  · unfold vlS; rw [fw_self, if_neg (by decide)]
/-! companies among those but one -/
theorem fw_congr {L : Nat → Nat → Bool} (h : ∀ i j, i < N → j < N → K i j = L i j) {i j : Nat} (hi : i < N) (hj : j < N) : fw K N i j = fw L N i j := by
  refine (fw_isD hi hj).uniq ?_
  rcases fw_isD (K := L) hi hj with ⟨e, q⟩ | ⟨n, e, q, p⟩
  · exact Or.inl ⟨e, fun n z => q n ((wk_congr h n i j).mp z)⟩
  · exact Or.inr ⟨n, e, (wk_congr h n i j).mpr q, fun m hm z => p m hm ((wk_congr h m i j).mp z)⟩
/-- none but members come to others -/
theorem wk_mem {mem : Nat → Bool} : ∀ (n a b : Nat), a < N → ¬ mem a = true → wk (kMem K mem) N n a b → b = a
  | 0, a, b, _, _, h => Eq.symm h
  | n + 1, a, b, ha, hm, ⟨c, c1, c2, c3, c4⟩ => by
    have := wk_mem n a c ha hm c3
    subst this
    unfold kMem at c4
    rw [Bool.and_eq_true, Bool.and_eq_true] at c4
    exact absurd c4.2.1 hm
/-- the first of a company, told alike by both -/
theorem isF_m (hS : ∀ i j, i < N → j < N → K i j = true → K j i = true) {mem : Nat → Bool} {gn : Int} (hm : ∀ i, i < N → (mem i = true ↔ ¬ (i : Int) = gn)) {L : Nat → Nat → Bool} (hL : ∀ i j, i < N → j < N → kMem K mem i j = L i j) {i : Nat} (hi : i < N) : isF K N mem i = isFm L N gn i := by
  unfold isF isFm
  have e1 : mem i = decide (¬ (i : Int) = gn) := by
    apply Bool.eq_iff_iff.mpr
    rw [hm i hi, decide_eq_true_eq]
  rw [← e1]
  cases hmi : mem i with
  | false => rfl
  | true =>
    rw [Bool.true_and, Bool.true_and]
    congr 1
    apply Bool.eq_iff_iff.mpr
    rw [exI_iff, exI_iff]
    constructor
    · intro ⟨b, b1, b2⟩
      rw [Bool.and_eq_true, decide_eq_true_eq] at b2
      refine ⟨b, b1, decide_eq_true ?_⟩
      rw [← fw_congr hL hi (show b < N by omega), ← fw_sym (kMem_sym hS) (show b < N by omega) hi]
      exact b2.2
    · intro ⟨b, b1, b2⟩
      rw [decide_eq_true_eq, ← fw_congr hL hi (show b < N by omega)] at b2
      refine ⟨b, b1, ?_⟩
      rw [Bool.and_eq_true, decide_eq_true_eq, fw_sym (kMem_sym hS) (show b < N by omega) hi]
      refine ⟨?_, b2⟩
      obtain ⟨s, ws⟩ := (fw_con hi (show b < N by omega)).mp b2
      cases hmb : mem b with
      | true => rfl
      | false =>
        have hb' := wk_sym (kMem_sym hS) s i b hi ws
        have := wk_mem s b i (by omega) (by rw [hmb]; decide) hb'
        omega
theorem cnt_F (hS : ∀ i j, i < N → j < N → K i j = true → K j i = true) {mem : Nat → Bool} {gn : Int} (hm : ∀ i, i < N → (mem i = true ↔ ¬ (i : Int) = gn)) {L : Nat → Nat → Bool} (hL : ∀ i j, i < N → j < N → kMem K mem i j = L i j) : cnt32 (isF K N mem) N = cnt32 (isFm L N gn) N := cnt32_congr N (fun i hi => isF_m hS hm hL hi)
end WB
end
