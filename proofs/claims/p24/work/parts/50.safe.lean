/-! SAFETY: what a function needs so that it answers at all -/
noncomputable section
def Sf {α : Type} (t : Option α) (Q : α → Prop) : Prop := ∃ o, t = some o ∧ Q o
section SF
variable {α β : Type} {Q : α → Prop} {A B : Option α}
theorem sf_some {o : α} (h : Q o) : Sf (some o) Q := ⟨o, rfl, h⟩
theorem sf_ite {p : Prop} [Decidable p] (h1 : p → Sf A Q) (h2 : ¬ p → Sf B Q) : Sf (if p then A else B) Q := by
  by_cases hp : p
  · rw [if_pos hp]; exact h1 hp
  · rw [if_neg hp]; exact h2 hp
theorem sf_guard {p : Prop} [Decidable p] (hp : p) (h1 : p → Sf A Q) : Sf (if p then A else none) Q := by
  rw [if_pos hp]; exact h1 hp
theorem sf_oP {P : Int32 → Prop} {t : Option Int32} {f : Int32 → Option α} (h : Sf t P) (hf : ∀ r, P r → Sf (f r) Q) : Sf (oP t f) Q := by
  obtain ⟨o, rfl, ho⟩ := h
  exact hf o ho
theorem sf_oI {P : Int32 × dH → Prop} {t : Option (Int32 × dH)} {f : Int32 → dH → Option α} (h : Sf t P) (hf : ∀ r g, P (r, g) → Sf (f r g) Q) : Sf (oI t f) Q := by
  obtain ⟨o, rfl, ho⟩ := h
  exact hf o.1 o.2 ho
theorem sf_oV {P : dH → Prop} {t : Option dH} {f : dH → Option α} (h : Sf t P) (hf : ∀ g, P g → Sf (f g) Q) : Sf (oV t f) Q := by
  obtain ⟨o, rfl, ho⟩ := h
  exact hf o ho
theorem sf_oH {u : dH} {T : dH → Option α} (hf : ∀ g, g = u → Sf (T g) Q) : Sf (oH u T) Q := hf u rfl
theorem sf_mono {P : α → Prop} (h : Sf A P) (hq : ∀ o, P o → Q o) : Sf A Q := by
  obtain ⟨o, ho, hp⟩ := h
  exact ⟨o, ho, hq o hp⟩
end SF
theorem dU_ne {h : dH} {a k b j : Nat} {x : Int32} (hn : ¬ (b = a ∧ j = k)) : dU h a k x b j = h b j := if_neg hn
theorem dU_eq {h : dH} {a k : Nat} {x : Int32} : dU h a k x a k = x := if_pos ⟨rfl, rfl⟩
theorem bm32 {z : Int} (h1 : -2147483648 ≤ z) (h2 : z < 2147483648) : z.bmod (2 ^ 32) = z := by
  rw [show (2 : Nat) ^ 32 = 4294967296 from rfl]
  rw [Int.bmod_eq_of_le (by omega) (by omega)]
theorem i_add {a b : Int32} {A B : Int} (ha : a.toInt = A) (hb : b.toInt = B) (h1 : -2147483648 ≤ A + B) (h2 : A + B < 2147483648) : (a + b).toInt = A + B := by
  subst ha hb
  rw [Int32.toInt_add, bm32 h1 h2]
theorem i_sub {a b : Int32} {A B : Int} (ha : a.toInt = A) (hb : b.toInt = B) (h1 : -2147483648 ≤ A - B) (h2 : A - B < 2147483648) : (a - b).toInt = A - B := by
  subst ha hb
  rw [Int32.toInt_sub, bm32 h1 h2]
theorem i_mul {a b : Int32} {A B : Int} (ha : a.toInt = A) (hb : b.toInt = B) (h1 : -2147483648 ≤ A * B) (h2 : A * B < 2147483648) : (a * b).toInt = A * B := by
  subst ha hb
  rw [Int32.toInt_mul, bm32 h1 h2]
theorem i_ne0 {y : Int32} (h : ¬ y.toInt = 0) : ¬ y = 0 := fun e => h (by rw [e]; rfl)
theorem l_ne0 {y : Int64} (h : ¬ y.toInt = 0) : ¬ y = 0 := fun e => h (by rw [e]; rfl)
theorem l_i2l {x : Int32} : x.toInt64.toInt = x.toInt := Int32.toInt_toInt64 x
theorem l_fits {u : Int64} (h1 : -2147483648 ≤ u.toInt) (h2 : u.toInt < 2147483648) : u.toInt32.toInt64 = u := by
  apply Int64.toInt_inj.mp
  rw [Int32.toInt_toInt64, Int64.toInt_toInt32, bm32 h1 h2]
/-! the class's ranges -/
def bndC (a k : Nat) : Option (Int × Int) :=
  if a = 0 then (if k = 3 then some (0, 6) else none)
  else if a = 1 then (if k = 0 then some (0, 160) else if k = 5 then some (0, 160) else none)
  else if a = 3 then some (0, 160)
  else if a = 7 then (if k = 0 then some (0, 8) else none)
  else if a = 42 then (if k = 2 then some (0, 160) else none)
  else if a = 10 ∨ a = 14 ∨ a = 18 ∨ a = 22 ∨ a = 26 ∨ a = 30 then (if k = 1 then some (0, 160) else none)
  else if a = 12 ∨ a = 16 ∨ a = 20 ∨ a = 24 ∨ a = 28 ∨ a = 32 then some (0, 160)
  else if a = 34 ∨ a = 36 ∨ a = 38 ∨ a = 40 then (if k = 1 then some (0, 40) else none)
  else if a = 43 ∨ a = 57 ∨ a = 71 then (if k = 2 then some (0, 8) else none)
  else none
def InvC (h : dH) : Prop := ∀ a k lo hi, bndC a k = some (lo, hi) → lo ≤ (h a k).toInt ∧ (h a k).toInt ≤ hi
def bndM (a k : Nat) : Option (Int × Int) :=
  if a = 0 then (if k = 3 then some (0, 6) else if k = 4 then some (0, 5) else if k = 6 then some (0, 160) else if k = 13 then some (0, 8) else if k = 39 then some (-1, 8) else if k = 42 then some (0, 5) else none)
  else if a = 2 then some (0, 160)
  else if a = 1 ∨ a = 3 then some (0, 255)
  else none
def InvM (h : dH) : Prop := (∀ a k lo hi, bndM a k = some (lo, hi) → lo ≤ (h a k).toInt ∧ (h a k).toInt ≤ hi) ∧ ∀ s, s < 4 → ¬ (h 14 s).toInt = 0 → 0 ≤ (h 16 s).toInt ∧ (h 16 s).toInt ≤ 40
theorem inv_free {h : dH} (I : InvC h) {a k : Nat} {x : Int32} (hb : bndC a k = none) : InvC (dU h a k x) := by
  intro b j lo hi e
  by_cases hn : b = a ∧ j = k
  · obtain ⟨rfl, rfl⟩ := hn
    rw [hb] at e; cases e
  · rw [dU_ne hn]; exact I b j lo hi e
theorem inv_set {h : dH} (I : InvC h) {a k : Nat} {x : Int32} {l u : Int} (hb : bndC a k = some (l, u)) (hx : l ≤ x.toInt ∧ x.toInt ≤ u) : InvC (dU h a k x) := by
  intro b j lo hi e
  by_cases hn : b = a ∧ j = k
  · obtain ⟨rfl, rfl⟩ := hn
    rw [hb] at e; cases e
    rw [dU_eq]; exact hx
  · rw [dU_ne hn]; exact I b j lo hi e
theorem inv_cpy {h : dH} (I : InvC h) {s sp d dp n : Nat} (hb : ∀ k, bndC d k = none) : InvC (dcopy h s sp d dp n) := by
  intro b j lo hi e
  unfold dcopy
  by_cases hn : b = d ∧ dp ≤ j ∧ j < dp + n
  · rw [hn.1, hb] at e; cases e
  · rw [if_neg hn]; exact I b j lo hi e
theorem dcopy_ne {h : dH} {s sp d dp n a k : Nat} (hn : ¬ a = d) : dcopy h s sp d dp n a k = h a k := if_neg fun e => hn e.1
theorem invM_free {h : dH} (I : InvM h) {a k : Nat} {x : Int32} (hb : bndM a k = none) (h14 : ¬ a = 14) (h16 : ¬ a = 16) : InvM (dU h a k x) := by
  refine ⟨fun b j lo hi e => ?_, fun s hs => ?_⟩
  · by_cases hn : b = a ∧ j = k
    · obtain ⟨rfl, rfl⟩ := hn
      rw [hb] at e; cases e
    · rw [dU_ne hn]; exact I.1 b j lo hi e
  · rw [dU_ne (by omega), dU_ne (by omega)]; exact I.2 s hs
theorem invM_set {h : dH} (I : InvM h) {a k : Nat} {x : Int32} {l u : Int} (hb : bndM a k = some (l, u)) (hx : l ≤ x.toInt ∧ x.toInt ≤ u) (h14 : ¬ a = 14) (h16 : ¬ a = 16) : InvM (dU h a k x) := by
  refine ⟨fun b j lo hi e => ?_, fun s hs => ?_⟩
  · by_cases hn : b = a ∧ j = k
    · obtain ⟨rfl, rfl⟩ := hn
      rw [hb] at e; cases e
      rw [dU_eq]; exact hx
    · rw [dU_ne hn]; exact I.1 b j lo hi e
  · rw [dU_ne (by omega), dU_ne (by omega)]; exact I.2 s hs
theorem bS2 {s : Nat} (h : zS s) : bndC s 2 = some (0, 8) := by rcases h with rfl | rfl | rfl <;> rfl
theorem fS {s k : Nat} (h : zS s) (hk : ¬ k = 2) : bndC s k = none := by
  rcases h with rfl | rfl | rfl <;> exact if_neg hk
theorem fS1 {s k : Nat} (h : zS s) : bndC (s + 1) k = none := by rcases h with rfl | rfl | rfl <;> rfl
theorem fS2 {s k : Nat} (h : zS s) : bndC (s + 2) k = none := by rcases h with rfl | rfl | rfl <;> rfl
theorem fS3 {s k : Nat} (h : zS s) : bndC (s + 3) k = none := by rcases h with rfl | rfl | rfl <;> rfl
theorem fS13 {s k : Nat} (h : zS s) : bndC (s + 13) k = none := by rcases h with rfl | rfl | rfl <;> rfl
theorem fSr {s k i : Nat} (h : zS s) (hi : i < 8) : bndC (s + 5 + i) k = none := by
  have : i = 0 ∨ i = 1 ∨ i = 2 ∨ i = 3 ∨ i = 4 ∨ i = 5 ∨ i = 6 ∨ i = 7 := by omega
  rcases h with rfl | rfl | rfl <;> rcases this with rfl | rfl | rfl | rfl | rfl | rfl | rfl | rfl <;> rfl
theorem bT1 {t : Nat} (h : zT t) : bndC t 1 = some (0, 160) := by rcases h with rfl | rfl | rfl | rfl | rfl | rfl <;> rfl
theorem bT2 {t k : Nat} (h : zT t) : bndC (t + 2) k = some (0, 160) := by rcases h with rfl | rfl | rfl | rfl | rfl | rfl <;> rfl
theorem fT1 {t k : Nat} (h : zT t) : bndC (t + 1) k = none := by rcases h with rfl | rfl | rfl | rfl | rfl | rfl <;> rfl
theorem fT3 {t k : Nat} (h : zT t) : bndC (t + 3) k = none := by rcases h with rfl | rfl | rfl | rfl | rfl | rfl <;> rfl
theorem bW1 {w : Nat} (h : zW w) : bndC w 1 = some (0, 40) := by rcases h with rfl | rfl | rfl | rfl <;> rfl
theorem fW0 {w : Nat} (h : zW w) : bndC w 0 = none := by rcases h with rfl | rfl | rfl | rfl <;> rfl
theorem fW1 {w k : Nat} (h : zW w) : bndC (w + 1) k = none := by rcases h with rfl | rfl | rfl | rfl <;> rfl
theorem fuel0_eq : ((fuel0 : Nat) : Int) = 1000 := rfl
theorem dmax_ok (x y : Int32) : x.toInt ≤ (dmax x y).toInt ∧ y.toInt ≤ (dmax x y).toInt ∧ ((dmax x y).toInt = x.toInt ∨ (dmax x y).toInt = y.toInt) := by
  unfold dmax
  by_cases h : x < y
  · rw [if_pos h]; have := Int32.lt_iff_toInt_lt.mp h; omega
  · rw [if_neg h]; have : ¬ x.toInt < y.toInt := fun e => h (Int32.lt_iff_toInt_lt.mpr e)
    omega
theorem dmin_ok (x y : Int32) : (dmin x y).toInt ≤ x.toInt ∧ (dmin x y).toInt ≤ y.toInt ∧ ((dmin x y).toInt = x.toInt ∨ (dmin x y).toInt = y.toInt) := by
  unfold dmin
  by_cases h : y < x
  · rw [if_pos h]; have := Int32.lt_iff_toInt_lt.mp h; omega
  · rw [if_neg h]; have : ¬ y.toInt < x.toInt := fun e => h (Int32.lt_iff_toInt_lt.mpr e)
    omega
theorem dlcmp_ok (a b : Int64) : ((dlcmp a b).toInt < 0 ↔ a.toInt < b.toInt) ∧ (0 < (dlcmp a b).toInt ↔ b.toInt < a.toInt) ∧ ((dlcmp a b).toInt = 0 ↔ a.toInt = b.toInt) := by
  unfold dlcmp
  have e1 : (-1 : Int32).toInt = -1 := by decide
  have e2 : (1 : Int32).toInt = 1 := by decide
  have e3 : (0 : Int32).toInt = 0 := by decide
  by_cases h : a.toInt < b.toInt
  · rw [if_pos h, e1]; omega
  · rw [if_neg h]
    by_cases h2 : b.toInt < a.toInt
    · rw [if_pos h2, e2]; omega
    · rw [if_neg h2, e3]; omega
theorem nat9 {P : Int32 → Prop} (h : ∀ k : Fin 9, P (Int32.ofNat k.val)) {y : Int32} (h0 : 0 ≤ y.toInt) (h8 : y.toInt ≤ 8) : P y := by
  have := h ⟨y.toInt.toNat, by omega⟩
  rw [i32_nat h0] at this
  exact this
theorem dshl1_ok {y : Int32} (h0 : 0 ≤ y.toInt) (h8 : y.toInt ≤ 8) : 1 ≤ (dshl 1 y).toInt ∧ (dshl 1 y).toInt ≤ 256 ∧ (y.toInt ≤ 7 → (dshl 1 y).toInt ≤ 128) :=
  nat9 (P := fun y => 1 ≤ (dshl 1 y).toInt ∧ (dshl 1 y).toInt ≤ 256 ∧ (y.toInt ≤ 7 → (dshl 1 y).toInt ≤ 128)) (by decide +kernel) h0 h8
theorem s_J0_length_8abf5 (a0 : Nat) (ha0 : zStr a0) : Sf (f_J0_length_8abf5 a0) (fun r => r.toInt = (strOf a0).length ∧ r.toInt ≤ 40) := by
  refine sf_some ?_
  have : (strOf a0).length ≤ 40 := by
    rcases zStr_or ha0 with rfl | rfl | rfl | rfl | rfl | rfl | rfl | rfl | rfl | rfl | rfl | rfl | rfl <;> simp only [xSo0, xSo1, xSo2, xSo3, xSo4, xSo5, xSo6, xSo7, xSo8, xSo9, xSo10, xSo11, xSo12] <;> decide
  rw [Int32.toInt_ofNat_of_lt (by omega)]
  omega
theorem s_J0_charAt_5068e (a0 : Nat) (ha0 : zStr a0) (v1 : Int32) (hb : 0 ≤ v1.toInt ∧ v1.toInt < (strOf a0).length) : Sf (f_J0_charAt_5068e a0 v1) (fun _ => True) := by
  refine ⟨_, if_pos hb, trivial⟩
theorem bm64 {z : Int} (h1 : -9223372036854775808 ≤ z) (h2 : z < 9223372036854775808) : z.bmod (2 ^ 64) = z := by
  rw [show (2 : Nat) ^ 64 = 18446744073709551616 from rfl]
  rw [Int.bmod_eq_of_le (by omega) (by omega)]
theorem l_add {a b : Int64} {A B : Int} (ha : a.toInt = A) (hb : b.toInt = B) (h1 : -9223372036854775808 ≤ A + B) (h2 : A + B < 9223372036854775808) : (a + b).toInt = A + B := by
  subst ha hb
  rw [Int64.toInt_add, bm64 h1 h2]
theorem l_sub {a b : Int64} {A B : Int} (ha : a.toInt = A) (hb : b.toInt = B) (h1 : -9223372036854775808 ≤ A - B) (h2 : A - B < 9223372036854775808) : (a - b).toInt = A - B := by
  subst ha hb
  rw [Int64.toInt_sub, bm64 h1 h2]
theorem l_mul {a b : Int64} {A B : Int} (ha : a.toInt = A) (hb : b.toInt = B) (h1 : -9223372036854775808 ≤ A * B) (h2 : A * B < 9223372036854775808) : (a * b).toInt = A * B := by
  subst ha hb
  rw [Int64.toInt_mul, bm64 h1 h2]
def InvP (h : dH) : Prop := 0 ≤ (h 0 20).toInt ∧ (h 0 20).toInt ≤ 800 ∧ 0 ≤ (h 0 21).toInt ∧ (h 0 21).toInt ≤ 160 ∧ 0 ≤ (h 0 24).toInt ∧ (h 0 24).toInt ≤ (h 0 22).toInt ∧ (h 0 22).toInt ≤ (h 0 21).toInt ∧ ((h 0 23).toInt = 3 → (h 0 24).toInt < (h 0 22).toInt)
def InvQ (h : dH) : Prop := InvM h ∧ InvP h
theorem invQ_free {h : dH} (I : InvQ h) {k : Nat} {x : Int32} (hb : bndM 0 k = none) (hk : ¬ k = 20 ∧ ¬ k = 21 ∧ ¬ k = 22 ∧ ¬ k = 23 ∧ ¬ k = 24) : InvQ (dU h 0 k x) := by
  refine ⟨invM_free I.1 hb (by omega) (by omega), ?_⟩
  unfold InvP
  rw [dU_ne (by omega), dU_ne (by omega), dU_ne (by omega), dU_ne (by omega), dU_ne (by omega)]
  exact I.2
theorem pq24 {h : dH} (I : InvQ h) : 0 ≤ (h 0 24).toInt ∧ (h 0 24).toInt ≤ 160 := by
  have p : InvP h := I.2
  unfold InvP at p
  omega
theorem lrem_ok {x y : Int64} (h0 : 0 ≤ x.toInt) (hy : 0 < y.toInt) (hx : x.toInt ≤ 1000) : 0 ≤ (x - x / y * y).toInt ∧ (x - x / y * y).toInt < y.toInt := by
  have hd : (x / y).toInt = x.toInt / y.toInt := by
    rw [Int64.toInt_div, Int.tdiv_eq_ediv_of_nonneg h0]
    have : 0 ≤ x.toInt / y.toInt := Int.ediv_nonneg h0 (by omega)
    have : x.toInt / y.toInt ≤ x.toInt := Int.ediv_le_self _ h0
    exact bm64 (by omega) (by omega)
  have hm : x.toInt / y.toInt * y.toInt + x.toInt % y.toInt = x.toInt := by
    rw [Int.mul_comm]; exact Int.mul_ediv_add_emod x.toInt y.toInt
  have h1 := Int.emod_nonneg x.toInt (show y.toInt ≠ 0 by omega)
  have h2 := Int.emod_lt_of_pos x.toInt hy
  have hq : 0 ≤ x.toInt / y.toInt * y.toInt := Int.mul_nonneg (Int.ediv_nonneg h0 (by omega)) (by omega)
  have hp : (x / y * y).toInt = x.toInt / y.toInt * y.toInt := by
    have := l_mul (a := x / y) (b := y) hd rfl (by omega) (by omega)
    exact this
  have := l_sub (a := x) (b := x / y * y) rfl hp (by omega) (by omega)
  rw [this]
  omega
end
