/-! the class's circle: the largest company, how far, the longest way; two turned -/
noncomputable section
def mxN (f : Nat → Nat) : Nat → Nat
  | 0 => 0
  | m + 1 => if mxN f m < f m then f m else mxN f m
/-- how many are in one's company -/
def cmS (K : Nat → Nat → Bool) (N a : Nat) : Nat := cntB (fun b => decide (¬ fw K N a b = -1)) N
def memN (N : Nat) : Nat → Bool := fun j => decide (j < N)
section CI
variable {K : Nat → Nat → Bool} {N a : Nat}
theorem kMem_N {i j : Nat} (hi : i < N) (hj : j < N) : kMem K (memN N) i j = K i j := by
  unfold kMem memN
  rw [decide_eq_true hi, decide_eq_true hj, Bool.and_self, Bool.and_true]
theorem con_fw (hN : N ≤ 8) {a j : Nat} (ha : a < N) (hj : j < N) : rcB (kMem K (memN N)) N a 8 j = decide (¬ fw K N a j = -1) := by
  apply Bool.eq_iff_iff.mpr
  rw [con_iff hN ha, decide_eq_true_eq, fw_con ha hj]
  constructor
  · intro ⟨n, h⟩
    exact ⟨n, (wk_congr (fun i j hi hj => kMem_N hi hj) n a j).mp h⟩
  · intro ⟨n, h⟩
    exact ⟨n, (wk_congr (fun i j hi hj => kMem_N hi hj) n a j).mpr h⟩
theorem largest_4 {h : dH} (C : CQ K N h) : ∀ (n : Nat) (v1 v2 : Int32), 0 ≤ v2.toInt → v2.toInt ≤ N → v1.toInt = mxN (cmS K N) v2.toInt.toNat → Al (l_X0_largestCompany_4 h (fun v => some v) n v1 v2) (fun r => r.toInt = mxN (cmS K N) N)
  | 0, _, _, _, _, _ => al_none
  | n + 1, v1, v2, p0, p1, e => by
    obtain ⟨C1, C2, C3⟩ := id C
    rw [l_X0_largestCompany_4, C1]
    have t := inc1 (v := v2) (by omega)
    obtain ⟨i, hi⟩ : ∃ i, v2.toInt.toNat = i := ⟨_, rfl⟩
    have en : (v2 + 1).toInt.toNat = i + 1 := by omega
    rw [hi] at e
    refine al_ite (fun c => al_oP (fun r3 h3 => al_oP (fun r4 h4 => al_oP (fun r5 h5 => ?_)))) (fun c => al_some (by rw [e, show i = N by omega]))
    have hiN : i < N := by omega
    have ev := everyone_ok C r3 h3
    have hc := company_ok C (mem := memN N) ev (show v2.toInt = i by omega) hiN (decide_eq_true hiN) r4 h4
    have hz : ∀ j, N ≤ j → bt r4 j = false := fun j hj => by
      rw [hc j]
      cases q : rcB (kMem K (memN N)) N i 8 j with
      | false => rfl
      | true => exact absurd (rcB_lt hiN 8 j q) (by omega)
    have hp := pop_ok (fun j hj => hz j (by omega)) r5 h5
    have hcm : cntB (bt r4) 8 = cmS K N i := by
      unfold cmS
      rw [cntB_false 8 C2 (fun j h1 _ => hz j h1)]
      exact cntB_congr N (fun j hj => (hc j).trans (con_fw C2 hiN hj))
    rw [hcm] at hp
    have dm := dmax_ok v1 r5
    refine largest_4 C n _ (v2 + 1) (by omega) (by omega) ?_
    rw [en, mxN]
    split <;> omega
theorem largest_ok {h : dH} (C : CQ K N h) : Al (f_X0_largestCompany h) (fun r => r.toInt = mxN (cmS K N) N) :=
  largest_4 C _ 0 0 (by decide) (by rw [ti0]; omega) rfl
theorem distance_7 {h : dH} (C : CQ K N h) {a b : Nat} (ha : a < N) (hb : b < N) {v2 : Int32} (h2 : v2.toInt = b) : ∀ (n : Nat) (v3 v4 : Int32), 0 ≤ v4.toInt → v4.toInt ≤ 8 → (∀ m, bt v3 m = rcB K N a v4.toInt.toNat m) → (∀ t, t < v4.toInt.toNat → rcB K N a t b = false) → Al (l_X0_distance_7 v2 h (some (-1)) n v3 v4) (fun r => isD K N a b r.toInt)
  | 0, _, _, _, _, _, _ => al_none
  | n + 1, v3, v4, p0, p1, hv, hn => by
    obtain ⟨C1, C2, C3⟩ := id C
    rw [l_X0_distance_7]
    have t := inc1 (v := v4) (by omega)
    obtain ⟨i, hi⟩ : ∃ i, v4.toInt.toNat = i := ⟨_, rfl⟩
    have en : (v4 + 1).toInt.toNat = i + 1 := by omega
    rw [hi] at hv hn
    have test := bt_test (x := v3) h2 (by omega)
    rw [hv b] at test
    refine al_ite (fun c => al_ite (fun z => al_some ?_) (fun z => al_oP (fun r5 h5 => ?_))) (fun c => al_some ?_)
    · obtain ⟨m, m1, m2⟩ := (rcB_wk ha i b).mp (test.mp z)
      have nw : ∀ t, t < i → ¬ wk K N t a b := fun t ht q => by
        have := (rcB_wk (K := K) ha t b).mpr ⟨t, Nat.le_refl _, q⟩
        rw [hn t ht] at this
        cases this
      have em : m = i := by
        rcases Nat.lt_or_ge m i with q | q
        · exact absurd m2 (nw m q)
        · omega
      subst em
      exact Or.inr ⟨m, by omega, m2, nw⟩
    · refine distance_7 C ha hb h2 n r5 (v4 + 1) (by omega) (by omega) (fun m => ?_) (fun t ht => ?_)
      · rw [further_ok C r5 h5 m, en, rcB, hv m]
        congr 2
        funext j
        rw [hv j]
      · by_cases e : t = i
        · rw [e]
          cases q : rcB K N a i b with
          | false => rfl
          | true => exact absurd (test.mpr q) z
        · exact hn t (by omega)
    · refine Or.inl ⟨by decide, fun m q => ?_⟩
      have := rc_all ha C2 q
      rw [hn 7 (by omega)] at this
      cases this
theorem distance_ok {h : dH} (C : CQ K N h) {a b : Nat} (ha : a < N) (hb : b < N) {v1 v2 : Int32} (h1 : v1.toInt = a) (h2 : v2.toInt = b) : Al (f_X0_distance v1 v2 h) (fun r => r.toInt = fw K N a b) := by
  have := C.2.1
  refine al_mono (distance_7 C ha hb h2 _ _ 0 (by decide) (by decide) (fun m => by rw [bt_one h1 (by omega), ti0]; rfl) (fun t ht => absurd ht (by rw [ti0]; exact Nat.not_lt_zero t))) (fun r hr => ?_)
  exact hr.uniq (fw_isD ha hb)
/-- a way's length, or so much, where there is none -/
def vlS (K : Nat → Nat → Bool) (N : Nat) (w : Int) (i j : Nat) : Int := if fw K N i j = -1 then w else fw K N i j
/-- the largest of all twos' -/
def isMx (val : Nat → Nat → Int) (N : Nat) (M : Int) : Prop := (∀ i j, i < j → j < N → val i j ≤ M) ∧ 0 ≤ M ∧ (M = 0 ∨ ∃ i j, i < j ∧ j < N ∧ val i j = M)
theorem isMx.uniq {val : Nat → Nat → Int} {M L : Int} (h1 : isMx val N M) (h2 : isMx val N L) : M = L := by
  obtain ⟨a1, a2, a3⟩ := h1
  obtain ⟨b1, b2, b3⟩ := h2
  have x : M ≤ L := by
    rcases a3 with q | ⟨i, j, q1, q2, q3⟩
    · omega
    · have := b1 i j q1 q2; omega
  have y : L ≤ M := by
    rcases b3 with q | ⟨i, j, q1, q2, q3⟩
    · omega
    · have := a1 i j q1 q2; omega
  omega
theorem longest_17 {h : dH} (C : CQ K N h) {v1 v3 : Int32} {i : Nat} (h3 : v3.toInt = i) (hi : i < N) {k : Int32 → Option Int32} {P : Int32 → Prop} {m0 : Int} (Kk : ∀ v : Int32, m0 ≤ v.toInt → (v.toInt = m0 ∨ ∃ j, i < j ∧ j < N ∧ vlS K N v1.toInt i j = v.toInt) → (∀ j, i < j → j < N → vlS K N v1.toInt i j ≤ v.toInt) → Al (k v) P) : ∀ (n : Nat) (v2 v4 : Int32), i < v4.toInt → v4.toInt ≤ N → m0 ≤ v2.toInt → (v2.toInt = m0 ∨ ∃ j, i < j ∧ j < N ∧ vlS K N v1.toInt i j = v2.toInt) → (∀ j, i < j → j < v4.toInt.toNat → vlS K N v1.toInt i j ≤ v2.toInt) → Al (l_X0_longestWay_17 v1 v3 h k n v2 v4) P
  | 0, _, _, _, _, _, _, _ => al_none
  | n + 1, v2, v4, p0, p1, hm, ho, hb => by
    obtain ⟨C1, C2, C3⟩ := id C
    rw [l_X0_longestWay_17, C1]
    have t := inc1 (v := v4) (by omega)
    obtain ⟨j, hj⟩ : ∃ j, v4.toInt.toNat = j := ⟨_, rfl⟩
    have en : (v4 + 1).toInt.toNat = j + 1 := by omega
    rw [hj] at hb
    refine al_ite (fun c => al_oP (fun r5 h5 => ?_)) (fun c => Kk v2 hm ho (fun q h1 h2 => hb q h1 (by omega)))
    have hd := distance_ok C hi (show j < N by omega) h3 (show v4.toInt = j by omega) r5 h5
    have go : ∀ x : Int32, x.toInt = vlS K N v1.toInt i j → Al (l_X0_longestWay_17 v1 v3 h k n (dmax v2 x) (v4 + 1)) P := by
      intro x hx
      have dm := dmax_ok v2 x
      refine longest_17 C h3 hi Kk n _ (v4 + 1) (by omega) (by omega) (by omega) ?_ (fun q h1 h2 => ?_)
      · rcases dm.2.2 with q | q
        · rcases ho with o | ⟨j', o1, o2, o3⟩
          · exact Or.inl (by omega)
          · exact Or.inr ⟨j', o1, o2, by omega⟩
        · exact Or.inr ⟨j, by omega, by omega, by omega⟩
      · by_cases e : q = j
        · rw [e]; omega
        · have := hb q h1 (by omega); omega
    refine al_ite (fun z => go v1 ?_) (fun z => go r5 ?_)
    · unfold vlS; rw [if_pos (by omega)]
    · unfold vlS; rw [if_neg (by omega)]; exact hd
theorem longest_4 {h : dH} (C : CQ K N h) {v1 : Int32} : ∀ (n : Nat) (v2 v3 : Int32), 0 ≤ v3.toInt → v3.toInt ≤ N → 0 ≤ v2.toInt → (v2.toInt = 0 ∨ ∃ i j, i < j ∧ j < N ∧ vlS K N v1.toInt i j = v2.toInt) → (∀ i j, i < v3.toInt.toNat → i < j → j < N → vlS K N v1.toInt i j ≤ v2.toInt) → Al (l_X0_longestWay_4 v1 h (fun v => some v) n v2 v3) (fun r => isMx (vlS K N v1.toInt) N r.toInt)
  | 0, _, _, _, _, _, _, _ => al_none
  | n + 1, v2, v3, p0, p1, hm, ho, hb => by
    obtain ⟨C1, C2, C3⟩ := id C
    rw [l_X0_longestWay_4, C1]
    have t := inc1 (v := v3) (by omega)
    obtain ⟨i, hi⟩ : ∃ i, v3.toInt.toNat = i := ⟨_, rfl⟩
    have en : (v3 + 1).toInt.toNat = i + 1 := by omega
    rw [hi] at hb
    refine al_ite (fun c => ?_) (fun c => al_some ⟨fun a b h1 h2 => hb a b (by omega) h1 h2, hm, ho⟩)
    refine longest_17 C (i := i) (by omega) (by omega) (m0 := v2.toInt) (fun v q1 q2 q3 => ?_) fuel0 v2 (v3 + 1) (by omega) (by omega) (Int.le_refl _) (Or.inl rfl) (fun j h1 h2 => absurd h2 (by omega))
    refine longest_4 C n v (v3 + 1) (by omega) (by omega) (by omega) ?_ (fun a b h1 h2 h3 => ?_)
    · rcases q2 with q2 | ⟨j, j1, j2, j3⟩
      · rcases ho with o | ⟨a, b, o1, o2, o3⟩
        · exact Or.inl (by omega)
        · exact Or.inr ⟨a, b, o1, o2, by omega⟩
      · exact Or.inr ⟨i, j, j1, j2, j3⟩
    · by_cases e : a = i
      · rw [e]; exact q3 b (by omega) h3
      · have := hb a b (by omega) h2 h3; omega
theorem longest_ok {h : dH} (C : CQ K N h) {v1 : Int32} : Al (f_X0_longestWay v1 h) (fun r => isMx (vlS K N v1.toInt) N r.toInt) :=
  longest_4 C _ 0 0 (by decide) (by rw [ti0]; omega) (by decide) (Or.inl ti0) (fun i j h => absurd h (by rw [ti0]; exact Nat.not_lt_zero i))
/-- two turned -/
def tnK (K : Nat → Nat → Bool) (p q a b : Nat) : Bool := K a b ^^ decide ((a = p ∧ b = q) ∨ (a = q ∧ b = p))
theorem turn_ok {h : dH} (C : CQ K N h) {p q : Nat} (hp : p < N) (hq : q < N) (hpq : ¬ p = q) {v1 v2 : Int32} (h1 : v1.toInt = p) (h2 : v2.toInt = q) : Al (f_X0_turn v1 v2 h) (fun g => CQ (tnK K p q) N g ∧ oFr g h) := by
  obtain ⟨C1, C2, C3⟩ := id C
  have e1 : v1.toInt.toNat = p := by omega
  have e2 : v2.toInt.toNat = q := by omega
  unfold f_X0_turn
  rw [e1, e2]
  refine al_ite (fun _ => al_ite (fun _ => al_oH' (fun g2 q2 => al_ite (fun _ => al_ite (fun _ => al_oH' (fun g hg => al_some ⟨⟨?_, C2, fun i hi j => ?_⟩, fun b k x y => ?_⟩)) (fun _ => al_none)) (fun _ => al_none))) (fun _ => al_none)) (fun _ => al_none)
  · rw [hg, dU_ne (by omega), q2, dU_ne (by omega)]; exact C1
  · have key : ∀ x : Int32, bt x j = (decide (j < N) && K i j) → ∀ (r : Nat) (hr : r < N) (w : Int32), w.toInt = r → bt (x ^^^ dshl 1 w) j = (decide (j < N) && (K i j ^^ decide (j = r))) := by
      intro x hx r hr w hw
      rw [bt_xor, hx, bt_one hw (by omega)]
      by_cases hj : j < N
      · rw [decide_eq_true hj, Bool.true_and, Bool.true_and]
      · rw [decide_eq_false hj, Bool.false_and, Bool.false_and, decide_eq_false (by omega)]; rfl
    unfold tnK
    by_cases ep : i = p
    · subst ep
      rw [hg, dU_ne (by omega), q2, dU_eq, key _ (C3 i hi j) q hq v2 h2]
      congr 2
      rw [decide_eq_decide]; omega
    · by_cases eq : i = q
      · subst eq
        rw [hg, dU_eq, q2, dU_ne (by omega), key _ (C3 i hi j) p hp v1 h1]
        congr 2
        rw [decide_eq_decide]; omega
      · rw [hg, dU_ne (by omega), q2, dU_ne (by omega), C3 i hi j]
        congr 1
        rw [decide_eq_false (by omega), Bool.xor_false]
  · rw [hg, dU_ne (by omega), q2, dU_ne (by omega)]
theorem tnK_two {p q a b : Nat} : tnK (tnK K p q) p q a b = K a b := by
  unfold tnK
  rw [Bool.xor_assoc, Bool.xor_self, Bool.xor_false]
theorem CQ.congr {L : Nat → Nat → Bool} {h : dH} (C : CQ K N h) (e : ∀ i j, i < N → j < N → K i j = L i j) : CQ L N h := by
  refine ⟨C.1, C.2.1, fun i hi j => ?_⟩
  rw [C.2.2 i hi j]
  by_cases hj : j < N
  · rw [e i j hi hj]
  · rw [decide_eq_false hj, Bool.false_and, Bool.false_and]
end CI
end
