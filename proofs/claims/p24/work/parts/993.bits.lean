/-! bits -/
noncomputable section
def bt (x : Int32) (j : Nat) : Bool := x.toBitVec.getLsbD j
theorem bt_or {x y : Int32} {j : Nat} : bt (x ||| y) j = (bt x j || bt y j) := by
  show (x.toBitVec ||| y.toBitVec).getLsbD j = _
  rw [BitVec.getLsbD_or]; rfl
theorem bt_and {x y : Int32} {j : Nat} : bt (x &&& y) j = (bt x j && bt y j) := by
  show (x.toBitVec &&& y.toBitVec).getLsbD j = _
  rw [BitVec.getLsbD_and]; rfl
theorem bt_xor {x y : Int32} {j : Nat} : bt (x ^^^ y) j = (bt x j ^^ bt y j) := by
  show (x.toBitVec ^^^ y.toBitVec).getLsbD j = _
  rw [BitVec.getLsbD_xor]; rfl
theorem bt_ge {x : Int32} {j : Nat} (h : 32 ≤ j) : bt x j = false := BitVec.getLsbD_of_ge _ _ h
theorem eight {P : Nat → Prop} (h : ∀ i : Fin 8, P i.val) : ∀ j, j < 8 → P j := fun j hj => h ⟨j, hj⟩
theorem bt_one {v : Int32} {j k : Nat} (hv : v.toInt = j) (hj : j < 8) : bt (dshl 1 v) k = decide (k = j) := by
  by_cases hk : k < 32
  · rw [i32_of hv]
    have h : ∀ (j : Fin 8) (k : Fin 32), bt (dshl 1 (Int32.ofNat j.val)) k.val = decide (k.val = j.val) := by decide +kernel
    exact h ⟨j, hj⟩ ⟨k, hk⟩
  · rw [bt_ge (by omega), eq_comm]
    exact decide_eq_false (by omega)
theorem bt_ev {v : Int32} {n k : Nat} (hv : v.toInt = n) (hn : n ≤ 8) : bt (dshl 1 v - 1) k = decide (k < n) := by
  by_cases hk : k < 32
  · rw [i32_of hv]
    have h : ∀ (j : Fin 9) (k : Fin 32), bt (dshl 1 (Int32.ofNat j.val) - 1) k.val = decide (k.val < j.val) := by decide +kernel
    exact h ⟨n, by omega⟩ ⟨k, hk⟩
  · rw [bt_ge (by omega), eq_comm]
    exact decide_eq_false (by omega)
theorem bt_m1 {k : Nat} (hk : k < 32) : bt (-1) k = true := by
  have h : ∀ (k : Fin 32), bt (-1) k.val = true := by decide +kernel
  exact h ⟨k, hk⟩
theorem bt_zero {k : Nat} : bt 0 k = false := by
  by_cases hk : k < 32
  · have h : ∀ (k : Fin 32), bt 0 k.val = false := by decide +kernel
    exact h ⟨k, hk⟩
  · exact bt_ge (by omega)
theorem dshr_bv {x v : Int32} {j : Nat} (hv : v.toInt = j) (hj : j < 8) : (dshr x v).toBitVec = x.toBitVec.sshiftRight j := by
  rw [i32_of hv]
  have : j = 0 ∨ j = 1 ∨ j = 2 ∨ j = 3 ∨ j = 4 ∨ j = 5 ∨ j = 6 ∨ j = 7 := by omega
  rcases this with rfl | rfl | rfl | rfl | rfl | rfl | rfl | rfl <;> rfl
theorem and1_bt {y : Int32} : (y &&& 1).toInt = 1 ↔ bt y 0 = true := by
  have e : (y &&& 1).toBitVec = BitVec.setWidth 32 (BitVec.ofBool (y.toBitVec.getLsbD 0)) := by
    show y.toBitVec &&& 1#32 = _
    exact BitVec.and_one_eq_setWidth_ofBool_getLsbD
  have t : (y &&& 1).toInt = (y &&& 1).toBitVec.toInt := rfl
  rw [t, e]
  unfold bt
  cases y.toBitVec.getLsbD 0 <;> decide
theorem bt_test {x v : Int32} {j : Nat} (hv : v.toInt = j) (hj : j < 8) : ((dshr x v) &&& 1).toInt = 1 ↔ bt x j = true := by
  rw [and1_bt]
  unfold bt
  rw [dshr_bv hv hj, BitVec.getLsbD_sshiftRight]
  rw [if_pos (by omega), Nat.add_zero]
  simp
def cntB (f : Nat → Bool) : Nat → Nat
  | 0 => 0
  | m + 1 => if f m = true then cntB f m + 1 else cntB f m
theorem cntB_congr {f g : Nat → Bool} : ∀ m, (∀ j, j < m → f j = g j) → cntB f m = cntB g m
  | 0, _ => rfl
  | m + 1, h => by rw [cntB, cntB, h m (by omega), cntB_congr m (fun j hj => h j (by omega))]
theorem cntB_le {f : Nat → Bool} : ∀ m, cntB f m ≤ m
  | 0 => Nat.le_refl _
  | m + 1 => by
    have := cntB_le (f := f) m
    rw [cntB]
    split <;> omega
theorem cntB_false {f : Nat → Bool} {n : Nat} : ∀ m, n ≤ m → (∀ j, n ≤ j → j < m → f j = false) → cntB f m = cntB f n
  | 0, h, _ => by rw [show n = 0 by omega]
  | m + 1, h, hf => by
    by_cases e : n = m + 1
    · rw [e]
    · rw [cntB, hf m (by omega) (by omega), if_neg (by decide)]
      exact cntB_false m (by omega) (fun j a b => hf j a (by omega))
/-- fewer places hold before than after -/
theorem cntB_lt {f g : Nat → Bool} {m j : Nat} (hj : j < m) (hfg : ∀ i, i < m → f i = true → g i = true) (h1 : f j = false) (h2 : g j = true) : cntB f m + 1 ≤ cntB g m := by
  have le : ∀ m, (∀ i, i < m → f i = true → g i = true) → cntB f m ≤ cntB g m := by
    intro m
    induction m with
    | zero => intro _; exact Nat.le_refl _
    | succ m ih =>
      intro h
      have := ih (fun i hi => h i (by omega))
      have := h m (by omega)
      rw [cntB, cntB]
      cases hf : f m
      · rw [if_neg (by decide)]; split <;> omega
      · rw [hf] at this
        rw [if_pos rfl, if_pos (this rfl)]; omega
  induction m with
  | zero => omega
  | succ m ih =>
    rw [cntB, cntB]
    by_cases e : j = m
    · subst e
      rw [h1, h2, if_neg (by decide), if_pos rfl]
      have := le j (fun i hi => hfg i (by omega))
      omega
    · have := ih (by omega) (fun i hi => hfg i (by omega))
      have := hfg m (by omega)
      cases hf : f m
      · rw [if_neg (by decide)]; split <;> omega
      · rw [hf] at this
        rw [if_pos rfl, if_pos (this rfl)]; omega
theorem pop8 : ∀ i : Fin 256, ((f_J6_bitCount_0f7a4 (Int32.ofNat i.val)).map Int32.toInt) = some (cntB (bt (Int32.ofNat i.val)) 8 : Int) := by decide +kernel
theorem small_of_bits {x : Int32} (h : ∀ j, 8 ≤ j → bt x j = false) : ∃ i : Fin 256, x = Int32.ofNat i.val := by
  have hx : x.toBitVec = BitVec.ofNat 32 (x.toBitVec.toNat % 256) := by
    apply BitVec.eq_of_getLsbD_eq
    intro i hi
    rw [BitVec.getLsbD_ofNat]
    have e : (x.toBitVec.toNat % 256).testBit i = (decide (i < 8) && x.toBitVec.toNat.testBit i) := by
      rw [show (256 : Nat) = 2 ^ 8 from rfl, Nat.testBit_mod_two_pow]
    rw [e]
    by_cases c : i < 8
    · simp [c, hi, BitVec.getLsbD]
    · have := h i (by omega)
      unfold bt at this
      rw [this]
      simp [c]
  refine ⟨⟨x.toBitVec.toNat % 256, Nat.mod_lt _ (by decide)⟩, ?_⟩
  apply Int32.toBitVec_inj.mp
  exact hx
theorem pop_ok {x : Int32} (h : ∀ j, 8 ≤ j → bt x j = false) : Al (f_J6_bitCount_0f7a4 x) (fun r => r.toInt = cntB (bt x) 8) := by
  obtain ⟨i, rfl⟩ := small_of_bits h
  intro r hr
  have := pop8 i
  rw [hr] at this
  exact Option.some.inj this
end
