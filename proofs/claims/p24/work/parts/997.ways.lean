/-! the reference's ways -/
noncomputable section
theorem mknows_same {g h : dH} (e : ∀ a k, ¬ a = 8 → g a k = h a k) {v1 v2 : Int32} : f_X7_knows v1 v2 g = f_X7_knows v1 v2 h := by
  unfold f_X7_knows f_X7_strengthOf
  rw [e 0 29 (by omega), e 0 30 (by omega), e 0 31 (by omega), e 0 8 (by omega), e 7 _ (by omega)]
theorem KnM.same {K : Nat → Nat → Bool} {N : Nat} {g h : dH} (q : KnM K N h) (e : ∀ a k, ¬ a = 8 → g a k = h a k) : KnM K N g := by
  intro v1 v2 i j h1 h2 hi hj
  rw [mknows_same e]
  exact q v1 v2 i j h1 h2 hi hj
/-- all but the ways -/
def vFr (g h : dH) : Prop := ∀ a k, ¬ a = 8 → g a k = h a k
theorem vFr.trans {f g h : dH} (q : vFr f g) (r : vFr g h) : vFr f h := fun b k x => (q b k x).trans (r b k x)
/-- the ways as a table tells, up to a place; behind it as another one -/
def wT (W V : Nat → Nat → Int) (N a b : Nat) (g : dH) : Prop := ∀ i j, i < N → j < N → (g 8 (8 * i + j)).toInt = if i < a ∨ (i = a ∧ j < b) then W i j else V i j
theorem wT.next {W V : Nat → Nat → Int} {N a b : Nat} {g h : dH} (q : wT W V N a b h) (hb : b < N) (hN : N ≤ 8) (he : ∀ k, ¬ k = 8 * a + b → g 8 k = h 8 k) (hv : (g 8 (8 * a + b)).toInt = W a b) : wT W V N a (b + 1) g := by
  intro i j hi hj
  by_cases c : i = a ∧ j = b
  · rw [c.1, c.2, hv, if_pos (by omega)]
  · rw [he _ (by omega), q i j hi hj]
    by_cases d : i < a ∨ (i = a ∧ j < b)
    · rw [if_pos d, if_pos (by omega)]
    · rw [if_neg d, if_neg (by omega)]
theorem wT.row {W V : Nat → Nat → Int} {N a : Nat} {g : dH} (q : wT W V N a N g) : wT W V N (a + 1) 0 g := by
  intro i j hi hj
  rw [q i j hi hj]
  by_cases d : i < a ∨ (i = a ∧ j < N)
  · rw [if_pos d, if_pos (by omega)]
  · rw [if_neg d, if_neg (by omega)]
theorem wT.all {W V : Nat → Nat → Int} {N : Nat} {g : dH} (q : wT W V N N 0 g) (V' : Nat → Nat → Int) : wT V' W N 0 0 g := by
  intro i j hi hj
  rw [q i j hi hj, if_pos (by omega), if_neg (by omega)]
section WA
variable {K : Nat → Nat → Bool} {N : Nat} {h0 : dH} {k : dH → Option dH} {P : dH → Prop}
theorem ways_12 (hK : KnM K N h0) (hN : (h0 0 13).toInt = N) (hN8 : N ≤ 8) {v1 : Int32} {a : Nat} (h1 : v1.toInt = a) (ha : a < N) {V : Nat → Nat → Int} (Kk : ∀ g, vFr g h0 → wT (fwI K) V N a N g → Al (k g) P) : ∀ (n : Nat) (v2 : Int32) (h : dH), 0 ≤ v2.toInt → v2.toInt ≤ N → vFr h h0 → wT (fwI K) V N a v2.toInt.toNat h → Al (l_X7_waysAll_12 v1 k n v2 h) P
  | 0, _, _, _, _, _, _ => al_none
  | n + 1, v2, h, p0, p1, F, W => by
    rw [l_X7_waysAll_12, F 0 13 (by omega), hN]
    have t := inc1 (v := v2) (by omega)
    obtain ⟨b, hb⟩ : ∃ b, v2.toInt.toNat = b := ⟨_, rfl⟩
    have en : (v2 + 1).toInt.toNat = b + 1 := by omega
    rw [hb] at W
    refine al_ite (fun c => ?_) (fun c => ?_)
    · have hbN : b < N := by omega
      have h2 : v2.toInt = b := by omega
      obtain ⟨-, ix⟩ := ix8 h1 h2 (by omega) (by omega)
      rw [ix]
      have go : ∀ (x : Int32) (g : dH), g = dU h 8 (8 * a + b) x → x.toInt = fwI K a b → Al (l_X7_waysAll_12 v1 k n (v2 + 1) g) P := by
        intro x g hg hx
        refine ways_12 hK hN hN8 h1 ha Kk n (v2 + 1) g (by omega) (by omega) (fun a k q => by rw [hg, dU_ne (by omega)]; exact F a k q) ?_
        rw [en]
        exact W.next hbN hN8 (fun k hk => by rw [hg, dU_ne (by omega)]) (by rw [hg, dU_eq]; exact hx)
      refine al_ite (fun z => al_ite (fun _ => al_oH' (fun g hg => go 0 g hg ?_)) (fun _ => al_none)) (fun z => al_oP (fun r9 hr => ?_))
      · unfold fwI; rw [if_pos (by omega)]; exact ti0
      · have q := (hK.same F) v1 v2 a b h1 h2 ha hbN r9 hr
        refine al_ite (fun z0 => al_ite (fun _ => al_oH' (fun g hg => go (-1) g hg ?_)) (fun _ => al_none)) (fun z0 => al_ite (fun _ => al_oH' (fun g hg => go 1 g hg ?_)) (fun _ => al_none))
        · unfold fwI; rw [if_neg (by omega), if_neg (q.no z0)]; decide
        · unfold fwI; rw [if_neg (by omega), if_pos (q.yes z0)]; exact ti1
    · rw [show b = N by omega] at W
      exact Kk h F W
theorem ways_2 (hK : KnM K N h0) (hN : (h0 0 13).toInt = N) (hN8 : N ≤ 8) {V : Nat → Nat → Int} (Kk : ∀ g, vFr g h0 → wT (fwI K) V N N 0 g → Al (k g) P) : ∀ (n : Nat) (v1 : Int32) (h : dH), 0 ≤ v1.toInt → v1.toInt ≤ N → vFr h h0 → wT (fwI K) V N v1.toInt.toNat 0 h → Al (l_X7_waysAll_2 k n v1 h) P
  | 0, _, _, _, _, _, _ => al_none
  | n + 1, v1, h, p0, p1, F, W => by
    rw [l_X7_waysAll_2, F 0 13 (by omega), hN]
    have t := inc1 (v := v1) (by omega)
    have en : (v1 + 1).toInt.toNat = v1.toInt.toNat + 1 := by omega
    refine al_ite (fun c => ?_) (fun c => ?_)
    · refine ways_12 hK hN hN8 (a := v1.toInt.toNat) (by omega) (by omega) (V := V) (fun g x1 x2 => ?_) fuel0 0 h (by decide) (by rw [ti0]; omega) F (by rw [ti0]; exact W)
      exact ways_2 hK hN hN8 Kk n (v1 + 1) g (by omega) (by omega) x1 (by rw [en]; exact x2.row)
    · rw [show v1.toInt.toNat = N by omega] at W
      exact Kk h F W
theorem pow8 {c : Nat} (h : c ≤ 8) : (2 : Int) ^ c ≤ 256 := by
  have : c = 0 ∨ c = 1 ∨ c = 2 ∨ c = 3 ∨ c = 4 ∨ c = 5 ∨ c = 6 ∨ c = 7 ∨ c = 8 := by omega
  rcases this with rfl | rfl | rfl | rfl | rfl | rfl | rfl | rfl | rfl <;> decide
/-- through c itself nothing is nearer to c -/
theorem fw_col {c a : Nat} : fw K (c + 1) a c = fw K c a c := by
  have h0 := fw_self (K := K) c c
  show fwS c (fw K c) a c = _
  unfold fwS
  rw [if_neg (by omega)]
theorem fw_row {c b : Nat} : fw K (c + 1) c b = fw K c c b := by
  have h0 := fw_self (K := K) c c
  show fwS c (fw K c) c b = _
  unfold fwS
  rw [if_neg (by omega)]
theorem ways_88 (hN : (h0 0 13).toInt = N) (hN8 : N ≤ 8) {v1 v2 : Int32} {c a : Nat} (h1 : v1.toInt = c) (hc : c < N) (h2 : v2.toInt = a) (ha : a < N) (Kk : ∀ g, vFr g h0 → wT (fw K (c + 1)) (fw K c) N a N g → Al (k g) P) : ∀ (n : Nat) (v3 : Int32) (h : dH), 0 ≤ v3.toInt → v3.toInt ≤ N → vFr h h0 → wT (fw K (c + 1)) (fw K c) N a v3.toInt.toNat h → Al (l_X7_waysAll_88 v1 v2 k n v3 h) P
  | 0, _, _, _, _, _, _ => al_none
  | n + 1, v3, h, p0, p1, F, W => by
    rw [l_X7_waysAll_88, F 0 13 (by omega), hN]
    have t := inc1 (v := v3) (by omega)
    obtain ⟨b, hb⟩ : ∃ b, v3.toInt.toNat = b := ⟨_, rfl⟩
    have en : (v3 + 1).toInt.toNat = b + 1 := by omega
    rw [hb] at W
    refine al_ite (fun cc => ?_) (fun cc => ?_)
    · have hbN : b < N := by omega
      have h3 : v3.toInt = b := by omega
      obtain ⟨-, i1⟩ := ix8 h2 h1 (by omega) (by omega)
      obtain ⟨-, i2⟩ := ix8 h1 h3 (by omega) (by omega)
      obtain ⟨-, i3⟩ := ix8 h2 h3 (by omega) (by omega)
      rw [i1, i2, i3]
      have w1 : (h 8 (8 * a + c)).toInt = fw K c a c := by
        rw [W a c ha hc]
        split
        · exact fw_col
        · rfl
      have w2 : (h 8 (8 * c + b)).toInt = fw K c c b := by
        rw [W c b hc hbN]
        split
        · exact fw_row
        · rfl
      have w3 : (h 8 (8 * a + b)).toInt = fw K c a b := by
        rw [W a b ha hbN, if_neg (by omega)]
      have r1 := fw_rng (K := K) c a c
      have r2 := fw_rng (K := K) c c b
      have p8 := pow8 (c := c) (by omega)
      have sm : (h 8 (8 * a + c) + h 8 (8 * c + b)).toInt = fw K c a c + fw K c c b := i_add w1 w2 (by omega) (by omega)
      have stay : fw K (c + 1) a b = fw K c a b → Al (l_X7_waysAll_88 v1 v2 k n (v3 + 1) h) P := fun e => ways_88 hN hN8 h1 hc h2 ha Kk n (v3 + 1) h (by omega) (by omega) F (by rw [en]; exact W.next hbN hN8 (fun _ _ => rfl) (by rw [w3, e]))
      have go : fw K (c + 1) a b = fw K c a c + fw K c c b → ∀ g, g = dU h 8 (8 * a + b) (h 8 (8 * a + c) + h 8 (8 * c + b)) → Al (l_X7_waysAll_88 v1 v2 k n (v3 + 1) g) P := fun e g hg => ways_88 hN hN8 h1 hc h2 ha Kk n (v3 + 1) g (by omega) (by omega) (fun a k q => by rw [hg, dU_ne (by omega)]; exact F a k q) (by rw [en]; exact W.next hbN hN8 (fun k hk => by rw [hg, dU_ne (by omega)]) (by rw [hg, dU_eq, sm, e]))
      have ef : fw K (c + 1) a b = if ¬ fw K c a c = -1 ∧ ¬ fw K c c b = -1 ∧ (fw K c a b = -1 ∨ fw K c a c + fw K c c b < fw K c a b) then fw K c a c + fw K c c b else fw K c a b := rfl
      refine al_ite (fun _ => al_ite (fun _ => al_ite (fun _ => al_ite (fun z1 => stay ?_) (fun z1 => al_ite (fun z2 => stay ?_) (fun z2 => al_ite (fun z3 => al_ite (fun _ => al_oH' (fun g hg => go ?_ g hg)) (fun _ => al_none)) (fun z3 => al_ite (fun z4 => al_ite (fun _ => al_oH' (fun g hg => go ?_ g hg)) (fun _ => al_none)) (fun z4 => stay ?_))))) (fun _ => al_none)) (fun _ => al_none)) (fun _ => al_none)
      · rw [ef, if_neg (by omega)]
      · rw [ef, if_neg (by omega)]
      · rw [ef, if_pos (by omega)]
      · rw [ef, if_pos (by omega)]
      · rw [ef, if_neg (by omega)]
    · rw [show b = N by omega] at W
      exact Kk h F W
theorem ways_78 (hN : (h0 0 13).toInt = N) (hN8 : N ≤ 8) {v1 : Int32} {c : Nat} (h1 : v1.toInt = c) (hc : c < N) (Kk : ∀ g, vFr g h0 → wT (fw K (c + 1)) (fw K c) N N 0 g → Al (k g) P) : ∀ (n : Nat) (v2 : Int32) (h : dH), 0 ≤ v2.toInt → v2.toInt ≤ N → vFr h h0 → wT (fw K (c + 1)) (fw K c) N v2.toInt.toNat 0 h → Al (l_X7_waysAll_78 v1 k n v2 h) P
  | 0, _, _, _, _, _, _ => al_none
  | n + 1, v2, h, p0, p1, F, W => by
    rw [l_X7_waysAll_78, F 0 13 (by omega), hN]
    have t := inc1 (v := v2) (by omega)
    have en : (v2 + 1).toInt.toNat = v2.toInt.toNat + 1 := by omega
    refine al_ite (fun cc => ?_) (fun cc => ?_)
    · refine ways_88 (K := K) hN hN8 h1 hc (a := v2.toInt.toNat) (by omega) (by omega) (fun g x1 x2 => ?_) fuel0 0 h (by decide) (by rw [ti0]; omega) F (by rw [ti0]; exact W)
      exact ways_78 hN hN8 h1 hc Kk n (v2 + 1) g (by omega) (by omega) x1 (by rw [en]; exact x2.row)
    · rw [show v2.toInt.toNat = N by omega] at W
      exact Kk h F W
theorem ways_68 (hN : (h0 0 13).toInt = N) (hN8 : N ≤ 8) (Kk : ∀ g, vFr g h0 → (∀ i j, i < N → j < N → (g 8 (8 * i + j)).toInt = fw K N i j) → Al (k g) P) : ∀ (n : Nat) (v1 : Int32) (h : dH), 0 ≤ v1.toInt → v1.toInt ≤ N → vFr h h0 → (∀ i j, i < N → j < N → (h 8 (8 * i + j)).toInt = fw K v1.toInt.toNat i j) → Al (l_X7_waysAll_68 k n v1 h) P
  | 0, _, _, _, _, _, _ => al_none
  | n + 1, v1, h, p0, p1, F, W => by
    rw [l_X7_waysAll_68, F 0 13 (by omega), hN]
    have t := inc1 (v := v1) (by omega)
    have en : (v1 + 1).toInt.toNat = v1.toInt.toNat + 1 := by omega
    refine al_ite (fun cc => ?_) (fun cc => ?_)
    · refine ways_78 (K := K) hN hN8 (c := v1.toInt.toNat) (by omega) (by omega) (fun g x1 x2 => ?_) fuel0 0 h (by decide) (by rw [ti0]; omega) F (fun i j hi hj => by rw [W i j hi hj, ti0, if_neg (fun q => q.elim (fun q => absurd q (Nat.not_lt_zero i)) (fun q => absurd q.2 (Nat.not_lt_zero j)))])
      exact ways_68 hN hN8 Kk n (v1 + 1) g (by omega) (by omega) x1 (fun i j hi hj => by rw [x2 i j hi hj, if_pos (Or.inl hi), en])
    · rw [show v1.toInt.toNat = N by omega] at W
      exact Kk h F W
end WA
/-- the ways stand there -/
def WQ (K : Nat → Nat → Bool) (N : Nat) (h : dH) : Prop := (h 0 13).toInt = N ∧ N ≤ 8 ∧ ∀ i j, i < N → j < N → (h 8 (8 * i + j)).toInt = fw K N i j
theorem waysAll_ok {K : Nat → Nat → Bool} {N : Nat} {h : dH} (hK : KnM K N h) (hN : (h 0 13).toInt = N) (hN8 : N ≤ 8) : Al (f_X7_waysAll h) (fun g => WQ K N g ∧ vFr g h) := by
  unfold f_X7_waysAll
  refine ways_2 hK hN hN8 (V := fun i j => (h 8 (8 * i + j)).toInt) (fun g x1 x2 => ?_) _ 0 h (by decide) (by rw [ti0]; omega) (fun _ _ _ => rfl) (fun i j _ _ => by rw [ti0, if_neg (fun q => q.elim (fun q => absurd q (Nat.not_lt_zero i)) (fun q => absurd q.2 (Nat.not_lt_zero j)))])
  refine ways_68 (K := K) (h0 := h) hN hN8 (fun g' y1 y2 => al_some ⟨⟨by rw [y1 0 13 (by omega)]; exact hN, hN8, y2⟩, y1⟩) _ 0 g (by decide) (by rw [ti0]; omega) x1 (fun i j hi hj => ?_)
  rw [x2 i j hi hj, if_pos (Or.inl hi), ti0]
  rfl
end
