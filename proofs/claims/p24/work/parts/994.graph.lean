/-! ways -/
noncomputable section
/-- there is a way of so many steps -/
def wk (K : Nat → Nat → Bool) (N : Nat) : Nat → Nat → Nat → Prop
  | 0, a, b => a = b
  | n + 1, a, b => ∃ c, c < N ∧ b < N ∧ wk K N n a c ∧ K c b = true
def exI (f : Nat → Bool) : Nat → Bool
  | 0 => false
  | m + 1 => exI f m || f m
theorem exI_iff {f : Nat → Bool} : ∀ m, exI f m = true ↔ ∃ i, i < m ∧ f i = true
  | 0 => by
    rw [exI]
    exact ⟨fun h => absurd h (by decide), fun ⟨i, h, _⟩ => absurd h (by omega)⟩
  | m + 1 => by
    rw [exI, Bool.or_eq_true, exI_iff m]
    constructor
    · intro h
      rcases h with ⟨i, h1, h2⟩ | h
      · exact ⟨i, by omega, h2⟩
      · exact ⟨m, by omega, h⟩
    · intro ⟨i, h1, h2⟩
      by_cases e : i = m
      · rw [e] at h2; exact Or.inr h2
      · exact Or.inl ⟨i, by omega, h2⟩
/-- reached in so many steps at most -/
def rcB (K : Nat → Nat → Bool) (N a : Nat) : Nat → Nat → Bool
  | 0, j => decide (j = a)
  | s + 1, j => rcB K N a s j || exI (fun i => rcB K N a s i && (decide (j < N) && K i j)) N
section GR
variable {K : Nat → Nat → Bool} {N : Nat}
theorem rcB_step {a s j : Nat} : rcB K N a (s + 1) j = true ↔ rcB K N a s j = true ∨ ∃ i, i < N ∧ rcB K N a s i = true ∧ j < N ∧ K i j = true := by
  rw [rcB, Bool.or_eq_true, exI_iff]
  constructor
  · intro h
    rcases h with h | ⟨i, h1, h2⟩
    · exact Or.inl h
    · rw [Bool.and_eq_true, Bool.and_eq_true, decide_eq_true_eq] at h2
      exact Or.inr ⟨i, h1, h2.1, h2.2.1, h2.2.2⟩
  · intro h
    rcases h with h | ⟨i, h1, h2, h3, h4⟩
    · exact Or.inl h
    · refine Or.inr ⟨i, h1, ?_⟩
      rw [Bool.and_eq_true, Bool.and_eq_true, decide_eq_true_eq]
      exact ⟨h2, h3, h4⟩
theorem rcB_lt {a : Nat} (ha : a < N) : ∀ (s j : Nat), rcB K N a s j = true → j < N
  | 0, j, h => by
    rw [rcB, decide_eq_true_eq] at h; omega
  | s + 1, j, h => by
    rcases rcB_step.mp h with h | ⟨i, -, -, h, -⟩
    · exact rcB_lt ha s j h
    · exact h
theorem rcB_mono {a j : Nat} {s t : Nat} (h : s ≤ t) (hr : rcB K N a s j = true) : rcB K N a t j = true := by
  induction h with
  | refl => exact hr
  | step _ ih => exact rcB_step.mpr (Or.inl ih)
theorem rcB_wk {a : Nat} (ha : a < N) : ∀ (s j : Nat), rcB K N a s j = true ↔ ∃ n, n ≤ s ∧ wk K N n a j
  | 0, j => by
    rw [rcB, decide_eq_true_eq]
    constructor
    · intro h; exact ⟨0, Nat.le_refl _, h.symm⟩
    · intro ⟨n, h1, h2⟩
      rw [show n = 0 by omega] at h2
      exact h2.symm
  | s + 1, j => by
    rw [rcB_step]
    constructor
    · intro h
      rcases h with h | ⟨i, h1, h2, h3, h4⟩
      · obtain ⟨n, q1, q2⟩ := (rcB_wk ha s j).mp h
        exact ⟨n, by omega, q2⟩
      · obtain ⟨n, q1, q2⟩ := (rcB_wk ha s i).mp h2
        exact ⟨n + 1, by omega, i, h1, h3, q2, h4⟩
    · intro ⟨n, h1, h2⟩
      match n, h1, h2 with
      | 0, h1, h2 => exact Or.inl ((rcB_wk ha s j).mpr ⟨0, by omega, h2⟩)
      | n + 1, h1, ⟨c, c1, c2, c3, c4⟩ => exact Or.inr ⟨c, c1, (rcB_wk ha s c).mpr ⟨n, by omega, c3⟩, c2, c4⟩
/-- what no longer grows -/
def stab (K : Nat → Nat → Bool) (N a t : Nat) : Prop := ∀ j, j < N → rcB K N a (t + 1) j = rcB K N a t j
theorem stab_all {a t : Nat} (ha : a < N) (h : stab K N a t) : ∀ m, ∀ j, rcB K N a (t + m) j = true → rcB K N a t j = true
  | 0, j, hj => hj
  | m + 1, j, hj => by
    rcases rcB_step.mp hj with q | ⟨i, q1, q2, q3, q4⟩
    · exact stab_all ha h m j q
    · rw [← h j q3]
      exact rcB_step.mpr (Or.inr ⟨i, q1, stab_all ha h m i q2, q3, q4⟩)
theorem grow {a : Nat} (ha : a < N) : ∀ s, (∃ t, t < s ∧ stab K N a t) ∨ s + 1 ≤ cntB (rcB K N a s) N
  | 0 => by
    right
    have : cntB (fun _ => false) N + 1 ≤ cntB (rcB K N a 0) N := cntB_lt (f := fun _ => false) (g := rcB K N a 0) ha (fun _ _ h => by cases h) rfl (by rw [rcB]; exact decide_eq_true rfl)
    omega
  | s + 1 => by
    rcases grow ha s with ⟨t, h1, h2⟩ | h
    · exact Or.inl ⟨t, by omega, h2⟩
    · by_cases c : stab K N a s
      · exact Or.inl ⟨s, by omega, c⟩
      · right
        obtain ⟨j, hj⟩ := Classical.not_forall.mp c
        obtain ⟨hj1, hj2⟩ := Classical.not_imp.mp hj
        have hf : rcB K N a s j = false := by
          cases e : rcB K N a s j with
          | false => rfl
          | true => exact absurd ((rcB_step.mpr (Or.inl e)).trans e.symm) hj2
        have hg : rcB K N a (s + 1) j = true := by
          cases e : rcB K N a (s + 1) j with
          | true => rfl
          | false => exact absurd (e.trans hf.symm) hj2
        have := cntB_lt (f := rcB K N a s) (g := rcB K N a (s + 1)) hj1 (fun i _ hi => rcB_step.mpr (Or.inl hi)) hf hg
        omega
theorem rc_all {a : Nat} (ha : a < N) (hN : N ≤ 8) {n j : Nat} (h : wk K N n a j) : rcB K N a 7 j = true := by
  have hr : rcB K N a (n + 8) j = true := (rcB_wk ha _ j).mpr ⟨n, by omega, h⟩
  rcases grow (K := K) ha 8 with ⟨t, h1, h2⟩ | h1
  · have := stab_all ha h2 (n + 8 - t) j (by rw [show t + (n + 8 - t) = n + 8 by omega]; exact hr)
    exact rcB_mono (by omega) this
  · have := cntB_le (f := rcB K N a 8) N
    omega
/-- how far it is -/
def isD (K : Nat → Nat → Bool) (N a b : Nat) (r : Int) : Prop := (r = -1 ∧ ∀ n, ¬ wk K N n a b) ∨ ∃ n : Nat, r = n ∧ wk K N n a b ∧ ∀ m, m < n → ¬ wk K N m a b
theorem isD.uniq {a b : Nat} {r s : Int} (h1 : isD K N a b r) (h2 : isD K N a b s) : r = s := by
  rcases h1 with ⟨e1, q1⟩ | ⟨n, e1, q1, p1⟩ <;> rcases h2 with ⟨e2, q2⟩ | ⟨m, e2, q2, p2⟩
  · omega
  · exact absurd q2 (q1 m)
  · exact absurd q1 (q2 n)
  · rcases Nat.lt_trichotomy n m with h | h | h
    · exact absurd q1 (p2 n h)
    · omega
    · exact absurd q2 (p1 m h)
theorem wk_cons {a c : Nat} (ha : a < N) (hc : c < N) (hK : K a c = true) : ∀ (n b : Nat), wk K N n c b → wk K N (n + 1) a b
  | 0, b, h => by
    have h' : c = b := h
    subst h'
    exact ⟨a, ha, hc, rfl, hK⟩
  | n + 1, b, ⟨d, d1, d2, d3, d4⟩ => ⟨d, d1, d2, wk_cons ha hc hK n d d3, d4⟩
theorem wk_sym (hS : ∀ i j, i < N → j < N → K i j = true → K j i = true) : ∀ (n a b : Nat), a < N → wk K N n a b → wk K N n b a
  | 0, a, b, _, h => Eq.symm h
  | n + 1, a, b, ha, ⟨c, c1, c2, c3, c4⟩ => wk_cons c2 c1 (hS c b c1 c2 c4) n a (wk_sym hS n a c ha c3)
theorem wk_lt : ∀ {n a b : Nat}, a < N → wk K N n a b → b < N
  | 0, a, b, ha, h => by have h' : a = b := h; omega
  | n + 1, a, b, _, ⟨c, c1, c2, _⟩ => c2
theorem wk_trans {a b : Nat} : ∀ (m n c : Nat), wk K N n a b → wk K N m b c → wk K N (n + m) a c
  | 0, n, c, h, h2 => by
    have h' : b = c := h2
    rw [← h']; exact h
  | m + 1, n, c, h, ⟨d, d1, d2, d3, d4⟩ => ⟨d, d1, d2, wk_trans m n d h d3, d4⟩
theorem isD_sym (hS : ∀ i j, i < N → j < N → K i j = true → K j i = true) {a b : Nat} (ha : a < N) (hb : b < N) {r : Int} (h : isD K N a b r) : isD K N b a r := by
  rcases h with ⟨e, q⟩ | ⟨n, e, q, p⟩
  · exact Or.inl ⟨e, fun n z => q n (wk_sym hS n b a hb z)⟩
  · exact Or.inr ⟨n, e, wk_sym hS n a b ha q, fun m hm z => p m hm (wk_sym hS m b a hb z)⟩
theorem isD_self {a : Nat} : isD K N a a 0 := Or.inr ⟨0, rfl, rfl, fun m hm => absurd hm (by omega)⟩
theorem wk_congr {L : Nat → Nat → Bool} (h : ∀ i j, i < N → j < N → K i j = L i j) : ∀ (n a b : Nat), wk K N n a b ↔ wk L N n a b
  | 0, a, b => Iff.rfl
  | n + 1, a, b => by
    constructor
    · intro ⟨c, c1, c2, c3, c4⟩
      exact ⟨c, c1, c2, (wk_congr h n a c).mp c3, by rw [← h c b c1 c2]; exact c4⟩
    · intro ⟨c, c1, c2, c3, c4⟩
      exact ⟨c, c1, c2, (wk_congr h n a c).mpr c3, by rw [h c b c1 c2]; exact c4⟩
/-! the reference's: by ones more and more between -/
def fwI (K : Nat → Nat → Bool) (a b : Nat) : Int := if a = b then 0 else if K a b = true then 1 else -1
def fwS (k : Nat) (W : Nat → Nat → Int) (a b : Nat) : Int := if ¬ W a k = -1 ∧ ¬ W k b = -1 ∧ (W a b = -1 ∨ W a k + W k b < W a b) then W a k + W k b else W a b
def fw (K : Nat → Nat → Bool) : Nat → Nat → Nat → Int
  | 0 => fwI K
  | k + 1 => fwS k (fw K k)
/-- a way with no others between but those below k -/
def wkI (K : Nat → Nat → Bool) (k : Nat) : Nat → Nat → Nat → Prop
  | 0, a, b => a = b
  | n + 1, a, b => ∃ c, wkI K k n a c ∧ K c b = true ∧ (n = 0 ∨ c < k)
theorem wkI_cut {k : Nat} : ∀ (n a b : Nat), wkI K (k + 1) n a b → wkI K k n a b ∨ ∃ n1 n2, n1 + n2 ≤ n ∧ wkI K k n1 a k ∧ wkI K k n2 k b
  | 0, a, b, h => Or.inl h
  | n + 1, a, b, ⟨c, c1, c2, c3⟩ => by
    by_cases hn : n = 0
    · subst hn
      exact Or.inl ⟨c, c1, c2, Or.inl rfl⟩
    · by_cases hc : c = k
      · subst hc
        rcases wkI_cut n a c c1 with q | ⟨n1, n2, q1, q2, -⟩
        · exact Or.inr ⟨n, 1, Nat.le_refl _, q, ⟨c, rfl, c2, Or.inl rfl⟩⟩
        · exact Or.inr ⟨n1, 1, by omega, q2, ⟨c, rfl, c2, Or.inl rfl⟩⟩
      · rcases wkI_cut n a c c1 with q | ⟨n1, n2, q1, q2, q3⟩
        · exact Or.inl ⟨c, q, c2, Or.inr (by omega)⟩
        · exact Or.inr ⟨n1, n2 + 1, by omega, q2, ⟨c, q3, c2, Or.inr (by omega)⟩⟩
theorem fw_rng : ∀ (k a b : Nat), fw K k a b = -1 ∨ (0 ≤ fw K k a b ∧ fw K k a b ≤ 2 ^ k)
  | 0, a, b => by
    show fwI K a b = -1 ∨ (0 ≤ fwI K a b ∧ fwI K a b ≤ 2 ^ 0)
    unfold fwI
    by_cases h : a = b
    · rw [if_pos h]; exact Or.inr (by decide)
    · rw [if_neg h]
      by_cases h2 : K a b = true
      · rw [if_pos h2]; exact Or.inr (by decide)
      · rw [if_neg h2]; exact Or.inl rfl
  | k + 1, a, b => by
    have h1 := fw_rng k a b
    have h2 := fw_rng k a k
    have h3 := fw_rng k k b
    show fwS k (fw K k) a b = -1 ∨ (0 ≤ fwS k (fw K k) a b ∧ fwS k (fw K k) a b ≤ 2 ^ (k + 1))
    unfold fwS
    rw [Int.pow_succ]
    by_cases c : ¬ fw K k a k = -1 ∧ ¬ fw K k k b = -1 ∧ (fw K k a b = -1 ∨ fw K k a k + fw K k k b < fw K k a b)
    · rw [if_pos c]; omega
    · rw [if_neg c]; omega
theorem fw_self : ∀ (k a : Nat), fw K k a a = 0
  | 0, a => by
    show fwI K a a = 0
    exact if_pos rfl
  | k + 1, a => by
    have h0 := fw_self k a
    have h2 := fw_rng (K := K) k a k
    have h3 := fw_rng (K := K) k k a
    show fwS k (fw K k) a a = 0
    unfold fwS
    rw [if_neg (by omega)]
    exact h0
theorem fw_sound {N : Nat} : ∀ (k a b : Nat), k ≤ N → a < N → b < N → fw K k a b = -1 ∨ ∃ n : Nat, fw K k a b = n ∧ wk K N n a b
  | 0, a, b, _, ha, hb => by
    show fwI K a b = -1 ∨ ∃ n : Nat, fwI K a b = n ∧ wk K N n a b
    unfold fwI
    by_cases h : a = b
    · rw [if_pos h]; exact Or.inr ⟨0, rfl, h⟩
    · rw [if_neg h]
      by_cases h2 : K a b = true
      · rw [if_pos h2]; exact Or.inr ⟨1, rfl, a, ha, hb, rfl, h2⟩
      · rw [if_neg h2]; exact Or.inl rfl
  | k + 1, a, b, hk, ha, hb => by
    have h1 := fw_sound k a b (by omega) ha hb
    show fwS k (fw K k) a b = -1 ∨ ∃ n : Nat, fwS k (fw K k) a b = n ∧ wk K N n a b
    unfold fwS
    by_cases c : ¬ fw K k a k = -1 ∧ ¬ fw K k k b = -1 ∧ (fw K k a b = -1 ∨ fw K k a k + fw K k k b < fw K k a b)
    · rw [if_pos c]
      rcases fw_sound k a k (by omega) ha (by omega) with q | ⟨n1, q1, q2⟩
      · exact absurd q c.1
      · rcases fw_sound k k b (by omega) (by omega) hb with p | ⟨n2, p1, p2⟩
        · exact absurd p c.2.1
        · exact Or.inr ⟨n1 + n2, by rw [q1, p1]; rfl, wk_trans n2 n1 b q2 p2⟩
    · rw [if_neg c]; exact h1
theorem fw_compl : ∀ (k n a b : Nat), wkI K k n a b → ¬ fw K k a b = -1 ∧ fw K k a b ≤ n
  | 0, 0, a, b, h => by
    have h' : a = b := h
    have e : fw K 0 a b = 0 := if_pos h'
    rw [e]; exact ⟨by decide, by decide⟩
  | 0, n + 1, a, b, ⟨c, c1, c2, c3⟩ => by
    have hn : n = 0 := by omega
    subst hn
    have c1' : a = c := c1
    subst c1'
    show ¬ fwI K a b = -1 ∧ fwI K a b ≤ ((0 + 1 : Nat) : Int)
    unfold fwI
    by_cases h : a = b
    · rw [if_pos h]; exact ⟨by decide, by decide⟩
    · rw [if_neg h, if_pos c2]; exact ⟨by decide, by decide⟩
  | k + 1, n, a, b, h => by
    have r1 := fw_rng (K := K) k a b
    have r2 := fw_rng (K := K) k a k
    have r3 := fw_rng (K := K) k k b
    show ¬ fwS k (fw K k) a b = -1 ∧ fwS k (fw K k) a b ≤ n
    unfold fwS
    rcases wkI_cut n a b h with q | ⟨n1, n2, q1, q2, q3⟩
    · have := fw_compl k n a b q
      by_cases c : ¬ fw K k a k = -1 ∧ ¬ fw K k k b = -1 ∧ (fw K k a b = -1 ∨ fw K k a k + fw K k k b < fw K k a b)
      · rw [if_pos c]; omega
      · rw [if_neg c]; omega
    · have p1 := fw_compl k n1 a k q2
      have p2 := fw_compl k n2 k b q3
      by_cases c : ¬ fw K k a k = -1 ∧ ¬ fw K k k b = -1 ∧ (fw K k a b = -1 ∨ fw K k a k + fw K k k b < fw K k a b)
      · rw [if_pos c]; omega
      · rw [if_neg c]; omega
theorem wk_I {a : Nat} (ha : a < N) : ∀ (n b : Nat), wk K N n a b → wkI K N n a b
  | 0, b, h => h
  | n + 1, b, ⟨c, c1, c2, c3, c4⟩ => ⟨c, wk_I ha n c c3, c4, Or.inr c1⟩
theorem fw_isD {a b : Nat} (ha : a < N) (hb : b < N) : isD K N a b (fw K N a b) := by
  rcases fw_sound (K := K) N a b (Nat.le_refl _) ha hb with q | ⟨n, q1, q2⟩
  · exact Or.inl ⟨q, fun n z => (fw_compl N n a b (wk_I ha n b z)).1 q⟩
  · refine Or.inr ⟨n, q1, q2, fun m hm z => ?_⟩
    have := (fw_compl N m a b (wk_I ha m b z)).2
    omega
end GR
end
