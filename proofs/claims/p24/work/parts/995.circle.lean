/-! the class's circle -/
noncomputable section
theorem knows_same {a : Nat} (ha : zS a) {g h : dH} (e : ∀ b k, (a ≤ b ∧ b ≤ a + 12) → g b k = h b k) {v1 v2 : Int32} : f_X3_knows a v1 v2 g = f_X3_knows a v1 v2 h := by
  unfold f_X3_knows
  rw [e a 1 (by omega)]
  by_cases c : 0 ≤ v1.toInt ∧ v1.toInt < 8
  · rw [if_pos c, if_pos c, e (a + 5 + v1.toInt.toNat) _ (by omega)]
  · rw [if_neg c, if_neg c]
theorem KnC.same {K : Nat → Nat → Bool} {N a : Nat} (ha : zS a) {g h : dH} (q : KnC K N a h) (e : ∀ b k, (a ≤ b ∧ b ≤ a + 12) → g b k = h b k) : KnC K N a g := by
  intro v1 v2 i j h1 h2 hi hj
  rw [knows_same ha e]
  exact q v1 v2 i j h1 h2 hi hj
def CQ (K : Nat → Nat → Bool) (N : Nat) (h : dH) : Prop := (h 7 0).toInt = N ∧ N ≤ 8 ∧ ∀ i, i < N → ∀ j, bt (h 8 i) j = (decide (j < N) && K i j)
/-- all but the circle -/
def oFr (g h : dH) : Prop := ∀ b k, ¬ b = 7 → ¬ b = 8 → g b k = h b k
theorem oFr.trans {f g h : dH} (q : oFr f g) (r : oFr g h) : oFr f h := fun b k x y => (q b k x y).trans (r b k x y)
section CI
variable {K : Nat → Nat → Bool} {N a : Nat}
theorem see_27 (ha : zS a) {h0 : dH} (hK : KnC K N a h0) (hN8 : N ≤ 8) {v2 : Int32} {i : Nat} (h2 : v2.toInt = i) (hi : i < N) {k : dH → Option dH} {P : dH → Prop} {h1 : dH} (Kk : ∀ g, oFr g h0 → (g 7 0).toInt = N → (∀ m, ¬ m = i → g 8 m = h1 8 m) → (∀ j, bt (g 8 i) j = (decide (j < N) && K i j)) → Al (k g) P) : ∀ (n : Nat) (v3 : Int32) (h : dH), 0 ≤ v3.toInt → v3.toInt ≤ N → oFr h h0 → (h 7 0).toInt = N → (∀ m, ¬ m = i → h 8 m = h1 8 m) → (∀ j, bt (h 8 i) j = (decide (j < v3.toInt.toNat) && K i j)) → Al (l_X0_see_27 a v2 k n v3 h) P
  | 0, _, _, _, _, _, _, _, _ => al_none
  | n + 1, v3, h, p0, p1, F, h7, hm, hb => by
    have z := zS_or ha
    rw [l_X0_see_27, h7]
    have t := inc1 (v := v3) (by omega)
    have en : (v3 + 1).toInt.toNat = v3.toInt.toNat + 1 := by omega
    have e2 : v2.toInt.toNat = i := by omega
    rw [e2]
    refine al_ite (fun c => al_oP (fun r hr => ?_)) (fun c => ?_)
    · have q := (hK.same ha (fun b k q => F b k (by omega) (by omega))) v2 v3 i v3.toInt.toNat h2 (by omega) hi (by omega) r hr
      refine al_ite (fun z0 => see_27 ha hK hN8 h2 hi Kk n (v3 + 1) h (by omega) (by omega) F h7 hm (fun j => ?_)) (fun z0 => al_ite (fun _ => al_ite (fun _ => al_oH' (fun g hg => see_27 ha hK hN8 h2 hi Kk n (v3 + 1) g (by omega) (by omega) (fun b k x y => by rw [hg, dU_ne (by omega)]; exact F b k x y) (by rw [hg, dU_ne (by omega)]; exact h7) (fun m hmi => by rw [hg, dU_ne (by omega)]; exact hm m hmi) (fun j => ?_))) (fun _ => al_none)) (fun _ => al_none))
      · rw [hb j, en]
        by_cases e : j = v3.toInt.toNat
        · rw [e, decide_eq_false (by omega), Bool.false_and]
          have : K i v3.toInt.toNat = false := by
            rcases q with q | q
            · omega
            · exact q.2
          rw [this, Bool.and_false]
        · rw [show decide (j < v3.toInt.toNat + 1) = decide (j < v3.toInt.toNat) by rw [decide_eq_decide]; omega]
      · rw [hg, dU_eq, bt_or, hb j, bt_one (j := v3.toInt.toNat) (by omega) (by omega), en]
        by_cases e : j = v3.toInt.toNat
        · rw [e, decide_eq_true rfl, Bool.or_true, decide_eq_true (by omega), q.yes z0]
          rfl
        · rw [decide_eq_false e, Bool.or_false, show decide (j < v3.toInt.toNat + 1) = decide (j < v3.toInt.toNat) by rw [decide_eq_decide]; omega]
    · rw [show v3.toInt.toNat = N by omega] at hb
      exact Kk h F h7 hm hb
theorem see_10 (ha : zS a) {h0 : dH} (hK : KnC K N a h0) (hN8 : N ≤ 8) : ∀ (n : Nat) (v2 : Int32) (h : dH), 0 ≤ v2.toInt → v2.toInt ≤ N → oFr h h0 → (h 7 0).toInt = N → (∀ i, i < v2.toInt.toNat → ∀ j, bt (h 8 i) j = (decide (j < N) && K i j)) → Al (l_X0_see_10 a (fun g => some g) n v2 h) (fun g => CQ K N g ∧ oFr g h0)
  | 0, _, _, _, _, _, _, _ => al_none
  | n + 1, v2, h, p0, p1, F, h7, hb => by
    rw [l_X0_see_10, h7]
    have t := inc1 (v := v2) (by omega)
    have en : (v2 + 1).toInt.toNat = v2.toInt.toNat + 1 := by omega
    refine al_ite (fun c => al_ite (fun _ => al_oH' (fun g4 hg => ?_)) (fun _ => al_none)) (fun c => al_some ⟨⟨h7, hN8, fun i hi => hb i (by omega)⟩, F⟩)
    refine see_27 ha hK hN8 (i := v2.toInt.toNat) (by omega) (by omega) (h1 := g4) (fun g x1 x2 x3 x4 => ?_) fuel0 0 g4 (by decide) (by rw [ti0]; omega) (fun b k x y => by rw [hg, dU_ne (by omega)]; exact F b k x y) (by rw [hg, dU_ne (by omega)]; exact h7) (fun _ _ => rfl) (fun j => by rw [hg, dU_eq, bt_zero, ti0]; rfl)
    refine see_10 ha hK hN8 n (v2 + 1) g (by omega) (by omega) x1 x2 (fun i hi j => ?_)
    by_cases e : i = v2.toInt.toNat
    · rw [e]; exact x4 j
    · rw [x3 i e, hg, dU_ne (by omega)]
      exact hb i (by omega) j
theorem see_ok (ha : zS a) {h : dH} (hK : KnC K N a h) (hN : (h a 2).toInt = N) (hN8 : N ≤ 8) : Al (f_X0_see a h) (fun g => CQ K N g ∧ oFr g h) := by
  unfold f_X0_see
  refine al_oH' (fun g hg => ?_)
  have F : oFr g h := fun b k x y => by rw [hg, dU_ne (by omega)]
  exact see_10 ha hK hN8 _ 0 g (by decide) (by rw [ti0]; omega) F (by rw [hg, dU_eq]; exact hN) (fun i hi => absurd hi (by rw [ti0]; omega))
theorem everyone_ok {h : dH} (C : CQ K N h) : Al (f_X0_everyone h) (fun r => ∀ k, bt r k = decide (k < N)) := by
  unfold f_X0_everyone
  exact al_some (fun k => bt_ev C.1 C.2.1)
theorem further_4 {h : dH} (C : CQ K N h) {v1 : Int32} : ∀ (n : Nat) (v2 v3 : Int32), 0 ≤ v3.toInt → v3.toInt ≤ N → (∀ m, bt v2 m = (bt v1 m || exI (fun i => bt v1 i && (decide (m < N) && K i m)) v3.toInt.toNat)) → Al (l_X0_further_4 v1 h (fun v => some v) n v2 v3) (fun r => ∀ m, bt r m = (bt v1 m || exI (fun i => bt v1 i && (decide (m < N) && K i m)) N))
  | 0, _, _, _, _, _ => al_none
  | n + 1, v2, v3, p0, p1, hb => by
    obtain ⟨C1, C2, C3⟩ := id C
    rw [l_X0_further_4, C1]
    have t := inc1 (v := v3) (by omega)
    have en : (v3 + 1).toInt.toNat = v3.toInt.toNat + 1 := by omega
    refine al_ite (fun c => al_ite (fun z => al_ite (fun _ => further_4 C n _ (v3 + 1) (by omega) (by omega) (fun m => ?_)) (fun _ => al_none)) (fun z => further_4 C n _ (v3 + 1) (by omega) (by omega) (fun m => ?_))) (fun c => al_some (fun m => by rw [hb m, show v3.toInt.toNat = N by omega]))
    · have z' := (bt_test (j := v3.toInt.toNat) (by omega) (by omega)).mp z
      rw [bt_or, hb m, en, exI, z', Bool.true_and, C3 _ (by omega) m, Bool.or_assoc]
    · have z' : bt v1 v3.toInt.toNat = false := by
        cases e : bt v1 v3.toInt.toNat with
        | false => rfl
        | true => exact absurd ((bt_test (j := v3.toInt.toNat) (by omega) (by omega)).mpr e) z
      rw [hb m, en, exI, z', Bool.false_and, Bool.or_false]
theorem further_ok {h : dH} (C : CQ K N h) {v1 : Int32} : Al (f_X0_further v1 h) (fun r => ∀ m, bt r m = (bt v1 m || exI (fun i => bt v1 i && (decide (m < N) && K i m)) N)) :=
  further_4 C _ v1 0 (by decide) (by rw [ti0]; omega) (fun m => by rw [ti0]; show _ = (_ || false); rw [Bool.or_false])
/-- who knows whom among some -/
def kMem (K : Nat → Nat → Bool) (mem : Nat → Bool) (i j : Nat) : Bool := K i j && (mem i && mem j)
theorem rc_mem {mem : Nat → Bool} {a : Nat} (hm : mem a = true) : ∀ (s j : Nat), rcB (kMem K mem) N a s j = true → mem j = true
  | 0, j, h => by
    rw [rcB, decide_eq_true_eq] at h
    rw [h]; exact hm
  | s + 1, j, h => by
    rcases rcB_step.mp h with h | ⟨i, -, -, -, h⟩
    · exact rc_mem hm s j h
    · unfold kMem at h
      rw [Bool.and_eq_true, Bool.and_eq_true] at h
      exact h.2.2
theorem company_7 {h : dH} (C : CQ K N h) {mem : Nat → Bool} {v2 : Int32} (hv : ∀ m, bt v2 m = mem m) {a : Nat} (ha : a < N) (hm : mem a = true) : ∀ (n : Nat) (v3 v4 : Int32), 0 ≤ v4.toInt → v4.toInt ≤ 8 → (∀ m, bt v3 m = rcB (kMem K mem) N a v4.toInt.toNat m) → Al (l_X0_companyOf_7 v2 h (fun v => some v) n v3 v4) (fun r => ∀ m, bt r m = rcB (kMem K mem) N a 8 m)
  | 0, _, _, _, _, _ => al_none
  | n + 1, v3, v4, p0, p1, hb => by
    rw [l_X0_companyOf_7]
    have t := inc1 (v := v4) (by omega)
    have en : (v4 + 1).toInt.toNat = v4.toInt.toNat + 1 := by omega
    refine al_ite (fun c => al_oP (fun r3 hr => company_7 C hv ha hm n _ (v4 + 1) (by omega) (by omega) (fun m => ?_))) (fun c => al_some (fun m => by rw [hb m, show v4.toInt.toNat = 8 by omega]))
    rw [bt_and, further_ok C r3 hr m, hv m, en]
    apply Bool.eq_iff_iff.mpr
    rw [rcB_step, Bool.and_eq_true, Bool.or_eq_true, exI_iff]
    constructor
    · intro ⟨h1, h2⟩
      rcases h1 with h1 | ⟨i, i1, i2⟩
      · exact Or.inl (by rw [← hb m]; exact h1)
      · rw [Bool.and_eq_true, Bool.and_eq_true, decide_eq_true_eq, hb i] at i2
        refine Or.inr ⟨i, i1, i2.1, i2.2.1, ?_⟩
        unfold kMem
        rw [i2.2.2, rc_mem hm _ i i2.1, h2]
        rfl
    · intro h1
      rcases h1 with h1 | ⟨i, i1, i2, i3, i4⟩
      · exact ⟨Or.inl (by rw [hb m]; exact h1), rc_mem hm _ m h1⟩
      · unfold kMem at i4
        rw [Bool.and_eq_true, Bool.and_eq_true] at i4
        refine ⟨Or.inr ⟨i, i1, ?_⟩, i4.2.2⟩
        rw [Bool.and_eq_true, Bool.and_eq_true, decide_eq_true_eq, hb i]
        exact ⟨i2, i3, i4.1⟩
/-- the company of one among some -/
theorem company_ok {h : dH} (C : CQ K N h) {mem : Nat → Bool} {v1 v2 : Int32} (hv : ∀ m, bt v2 m = mem m) {a : Nat} (h1 : v1.toInt = a) (ha : a < N) (hm : mem a = true) : Al (f_X0_companyOf v1 v2 h) (fun r => ∀ m, bt r m = rcB (kMem K mem) N a 8 m) := by
  have := C.2.1
  exact company_7 C hv ha hm _ _ 0 (by decide) (by decide) (fun m => by rw [bt_one h1 (by omega), ti0]; rfl)
theorem con_iff (hN : N ≤ 8) {a j : Nat} (ha : a < N) : rcB K N a 8 j = true ↔ ∃ n, wk K N n a j := by
  constructor
  · intro h
    obtain ⟨n, -, q⟩ := (rcB_wk ha 8 j).mp h
    exact ⟨n, q⟩
  · intro ⟨n, q⟩
    exact rcB_mono (by omega) (rc_all ha hN q)
theorem fw_con {a j : Nat} (ha : a < N) (hj : j < N) : ¬ fw K N a j = -1 ↔ ∃ n, wk K N n a j := by
  rcases fw_isD (K := K) ha hj with ⟨e, q⟩ | ⟨n, e, q, -⟩
  · exact ⟨fun z => absurd e z, fun ⟨n, z⟩ => absurd z (q n)⟩
  · exact ⟨fun _ => ⟨n, q⟩, fun _ => by omega⟩
/-- the first of its company -/
def isF (K : Nat → Nat → Bool) (N : Nat) (mem : Nat → Bool) (i : Nat) : Bool := mem i && !exI (fun b => mem b && decide (¬ fw (kMem K mem) N b i = -1)) i
theorem kMem_sym {mem : Nat → Bool} (hS : ∀ i j, i < N → j < N → K i j = true → K j i = true) : ∀ i j, i < N → j < N → kMem K mem i j = true → kMem K mem j i = true := by
  intro i j hi hj h
  unfold kMem at h ⊢
  rw [Bool.and_eq_true, Bool.and_eq_true] at h ⊢
  exact ⟨hS i j hi hj h.1, h.2.2, h.2.1⟩
theorem companies_7 {h : dH} (C : CQ K N h) (hS : ∀ i j, i < N → j < N → K i j = true → K j i = true) {mem : Nat → Bool} {v1 : Int32} (hv : ∀ m, bt v1 m = mem m) : ∀ (n : Nat) (v2 v3 v4 : Int32), 0 ≤ v4.toInt → v4.toInt ≤ N → v2 = cnt32 (isF K N mem) v4.toInt.toNat → (∀ m, m < N → (bt v3 m = true ↔ mem m = true ∧ ∀ b, b < v4.toInt.toNat → mem b = true → ¬ ∃ s, wk (kMem K mem) N s b m)) → Al (l_X0_companies_7 v1 h (fun v => some v) n v2 v3 v4) (fun r => r = cnt32 (isF K N mem) N)
  | 0, _, _, _, _, _, _, _ => al_none
  | n + 1, v2, v3, v4, p0, p1, e, hb => by
    obtain ⟨C1, C2, C3⟩ := id C
    rw [l_X0_companies_7, C1]
    have t := inc1 (v := v4) (by omega)
    obtain ⟨i, hi⟩ : ∃ i, v4.toInt.toNat = i := ⟨_, rfl⟩
    have hi' : v4.toInt = i := by omega
    have en : (v4 + 1).toInt.toNat = i + 1 := by omega
    rw [hi] at e hb
    refine al_ite (fun c => ?_) (fun c => al_some (by rw [e, show i = N by omega]))
    have hiN : i < N := by omega
    have test := bt_test (x := v3) hi' (by omega)
    have fI : isF K N mem i = true ↔ bt v3 i = true := by
      rw [hb i hiN]
      unfold isF
      rw [Bool.and_eq_true, Bool.not_eq_true', ← Bool.not_eq_true, exI_iff]
      constructor
      · intro ⟨h1, h2⟩
        refine ⟨h1, fun b hbi hmb hw => h2 ⟨b, hbi, ?_⟩⟩
        rw [Bool.and_eq_true, decide_eq_true_eq]
        exact ⟨hmb, (fw_con (by omega) hiN).mpr hw⟩
      · intro ⟨h1, h2⟩
        refine ⟨h1, fun ⟨b, hbi, hq⟩ => ?_⟩
        rw [Bool.and_eq_true, decide_eq_true_eq] at hq
        exact h2 b hbi hq.1 ((fw_con (by omega) hiN).mp hq.2)
    refine al_ite (fun z => al_oP (fun r5 hr => ?_)) (fun z => ?_)
    · have z' := test.mp z
      have hmi : mem i = true := ((hb i hiN).mp z').1
      have hc := company_ok C hv hi' hiN hmi r5 hr
      refine companies_7 C hS hv n _ _ (v4 + 1) (by omega) (by omega) (by rw [en, cnt32, if_pos (fI.mpr z'), e]) (fun m hmN => ?_)
      rw [bt_and, bt_xor, bt_m1 (show m < 32 by omega), hc m, Bool.and_eq_true, hb m hmN, en]
      have hx : (rcB (kMem K mem) N i 8 m ^^ true) = true ↔ ¬ ∃ s, wk (kMem K mem) N s i m := by
        rw [← con_iff C2 hiN]
        cases rcB (kMem K mem) N i 8 m <;> decide
      rw [hx]
      constructor
      · intro ⟨⟨h1, h2⟩, h3⟩
        refine ⟨h1, fun b hb1 hb2 => ?_⟩
        by_cases eb : b = i
        · rw [eb]; exact h3
        · exact h2 b (by omega) hb2
      · intro ⟨h1, h2⟩
        exact ⟨⟨h1, fun b hb1 hb2 => h2 b (by omega) hb2⟩, h2 i (by omega) hmi⟩
    · have z' : ¬ bt v3 i = true := fun q => z (test.mpr q)
      refine companies_7 C hS hv n _ _ (v4 + 1) (by omega) (by omega) (by rw [en, cnt32, if_neg (fun q => z' (fI.mp q)), e]) (fun m hmN => ?_)
      rw [hb m hmN, en]
      constructor
      · intro ⟨h1, h2⟩
        refine ⟨h1, fun b hb1 hb2 hw => ?_⟩
        by_cases eb : b = i
        · subst eb
          refine z' ((hb b hiN).mpr ⟨hb2, fun d hd1 hd2 hw2 => h2 d hd1 hd2 ?_⟩)
          obtain ⟨s1, w1⟩ := hw2
          obtain ⟨s2, w2⟩ := hw
          exact ⟨s1 + s2, wk_trans s2 s1 m w1 w2⟩
        · exact h2 b (by omega) hb2 hw
      · intro ⟨h1, h2⟩
        exact ⟨h1, fun b hb1 hb2 => h2 b (by omega) hb2⟩
theorem companies_ok {h : dH} (C : CQ K N h) (hS : ∀ i j, i < N → j < N → K i j = true → K j i = true) {mem : Nat → Bool} {v1 : Int32} (hv : ∀ m, bt v1 m = mem m) : Al (f_X0_companies v1 h) (fun r => r = cnt32 (isF K N mem) N) :=
  companies_7 C hS hv _ 0 v1 0 (by decide) (by rw [ti0]; omega) rfl (fun m _ => by
    rw [hv m, ti0]
    exact ⟨fun q => ⟨q, fun b hb => absurd hb (Nat.not_lt_zero b)⟩, fun q => q.1⟩)
end CI
end
