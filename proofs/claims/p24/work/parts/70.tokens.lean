/-! TOKENS: the bytes of a text, read alike by class and reference -/
noncomputable section
def isBl (b : Int) : Prop := b = 32 ∨ b = 10
def isDg (b : Int) : Prop := 48 ≤ b ∧ b ≤ 57
def isSm (b : Int) : Prop := 97 ≤ b ∧ b ≤ 122
/-- from p on f holds, up to q, where it ends -/
def Run (f : Int → Prop) (B : Nat → Int) (N p q : Nat) : Prop := p ≤ q ∧ q ≤ N ∧ (∀ j, p ≤ j → j < q → f (B j)) ∧ (q < N → ¬ f (B q))
theorem Run.uniq {f : Int → Prop} {B : Nat → Int} {N p q r : Nat} (h1 : Run f B N p q) (h2 : Run f B N p r) : q = r := by
  obtain ⟨a1, a2, a3, a4⟩ := h1
  obtain ⟨b1, b2, b3, b4⟩ := h2
  rcases Nat.lt_trichotomy q r with h | h | h
  · exact absurd (b3 q a1 h) (a4 (by omega))
  · exact h
  · exact absurd (a3 r b1 h) (b4 (by omega))
theorem Run.stop {f : Int → Prop} {B : Nat → Int} {N p : Nat} (h : p ≤ N) (hn : p < N → ¬ f (B p)) : Run f B N p p := ⟨Nat.le_refl _, h, fun _ _ _ => by omega, hn⟩
theorem Run.step {f : Int → Prop} {B : Nat → Int} {N p q : Nat} (hp : f (B p)) (h : Run f B N (p + 1) q) : Run f B N p q := by
  obtain ⟨a1, a2, a3, a4⟩ := h
  refine ⟨by omega, a2, fun j h1 h2 => ?_, a4⟩
  by_cases e : j = p
  · rw [e]; exact hp
  · exact a3 j (by omega) h2
/-- what so many digits say -/
def numV (B : Nat → Int) (s : Nat) : Nat → Int
  | 0 => 0
  | n + 1 => 10 * numV B s n + (B (s + n) - 48)
/-- the letters from s to e are these -/
def isW (B : Nat → Int) (s e : Nat) (l : List Int) : Prop := e = s + l.length ∧ ∀ j, j < l.length → some (B (s + j)) = l[j]?
def wName (i : Nat) : List Int := [[115, 116, 114, 101, 110, 103, 116, 104], [110, 117, 109, 98, 101, 114], [111, 116, 104, 101, 114], [115, 101, 97, 116, 115], [121, 101, 97, 114], [97, 112, 97, 114, 116]].getD i []
def wKey (i : Nat) : List Int := [[109, 101, 101, 116, 115], [102, 97, 100, 101, 115], [115, 111, 117, 110, 100, 115], [111, 114], [97, 110, 100], [110, 111, 116]].getD i []
/-- the token behind p: its code c in the class, its start and end, what it writes into a text -/
def Tok (B : Nat → Int) (N p : Nat) (c : Int) (s e : Nat) (w : Int) : Prop := Run isBl B N p s ∧
  ((s = N ∧ c = 300 ∧ e = N) ∨
   (s < N ∧ isDg (B s) ∧ Run isDg B N s e ∧ ((s + 4 < e ∧ c = 301) ∨ (e ≤ s + 4 ∧ c = 302 ∧ w = numV B s (e - s)))) ∨
   (s < N ∧ isSm (B s) ∧ Run isSm B N s e ∧ ((∃ i, i < 6 ∧ isW B s e (wName i) ∧ c = 303 ∧ w = -1 - (i : Int)) ∨ (∃ i, i < 6 ∧ isW B s e (wKey i) ∧ c = 304 + (i : Int)) ∨ ((∀ i, i < 6 → ¬ isW B s e (wName i) ∧ ¬ isW B s e (wKey i)) ∧ c = 301))) ∨
   (s < N ∧ ¬ isDg (B s) ∧ ¬ isSm (B s) ∧ ¬ isBl (B s) ∧ c = B s ∧ e = s + 1))
theorem al_oH' {α : Type} {P : α → Prop} {u : dH} {f : dH → Option α} (h : ∀ g, g = u → Al (f g) P) : Al (oH u f) P := h u rfl
/-! the reference's bytes -/
def mB (h : dH) (j : Nat) : Int := (h 1 ((h 0 20).toInt.toNat + j)).toInt
def mOk (h : dH) : Prop := 0 ≤ (h 0 20).toInt ∧ (h 0 20).toInt ≤ 800 ∧ 0 ≤ (h 0 21).toInt ∧ (h 0 21).toInt ≤ 160
theorem byte_ok {v : Int32} {h : dH} (ho : mOk h) (h0 : 0 ≤ v.toInt) : Al (f_X7_byteAt v h) (fun r => (v.toInt < (h 0 21).toInt ∧ r.toInt = mB h v.toInt.toNat) ∨ ((h 0 21).toInt ≤ v.toInt ∧ r.toInt = -1)) := by
  unfold f_X7_byteAt
  obtain ⟨o1, o2, o3, o4⟩ := ho
  refine al_ite (fun c => ?_) (fun c => al_some (Or.inr ⟨by omega, by decide⟩))
  have e : ((h 0 20) + v).toInt = (h 0 20).toInt + v.toInt := i_add rfl rfl (by omega) (by omega)
  refine al_ite (fun _ => al_some (Or.inl ⟨c, ?_⟩)) (fun _ => al_none)
  unfold mB
  rw [e, Int.toNat_add o1 h0]
/-- a heap that differs in the reference's own numbers from 22 on alone -/
def mSame (g h : dH) : Prop := (∀ a k, ¬ a = 0 → g a k = h a k) ∧ ∀ k, ¬ (22 ≤ k ∧ k ≤ 28) → g 0 k = h 0 k
theorem mSame.refl (h : dH) : mSame h h := ⟨fun _ _ _ => rfl, fun _ _ => rfl⟩
theorem mSame.trans {f g h : dH} (h1 : mSame f g) (h2 : mSame g h) : mSame f h := ⟨fun a k q => (h1.1 a k q).trans (h2.1 a k q), fun k q => (h1.2 k q).trans (h2.2 k q)⟩
theorem mSame.up {h : dH} {k : Nat} {x : Int32} (hk : 22 ≤ k ∧ k ≤ 28) : mSame (dU h 0 k x) h := ⟨fun a j q => dU_ne (fun e => q e.1), fun j q => dU_ne (fun e => q (by omega))⟩
theorem mSame.bytes {g h : dH} (q : mSame g h) : mB g = mB h := by
  funext j
  unfold mB
  rw [q.2 20 (by omega), q.1 1 _ (by decide)]
theorem mSame.ok {g h : dH} (q : mSame g h) (o : mOk h) : mOk g := by
  unfold mOk
  rw [q.2 20 (by omega), q.2 21 (by omega)]
  exact o
theorem inc22 {h : dH} (h0 : 0 ≤ (h 0 22).toInt) (h1 : (h 0 22).toInt ≤ 1000) : ((dU h 0 22 ((h 0 22) + 1)) 0 22).toInt = (h 0 22).toInt + 1 := by
  rw [dU_eq]
  exact i_add rfl (by decide) (by omega) (by omega)
theorem inc22n {h : dH} (h0 : 0 ≤ (h 0 22).toInt) (h1 : (h 0 22).toInt ≤ 1000) : ((dU h 0 22 ((h 0 22) + 1)) 0 22).toInt.toNat = (h 0 22).toInt.toNat + 1 := by
  rw [inc22 h0 h1]; omega
/-- letters are passed over -/
theorem next_100 {k : dH → Option dH} {P : dH → Prop} : ∀ (n : Nat) (h : dH), mOk h → 0 ≤ (h 0 22).toInt → (h 0 22).toInt ≤ (h 0 21).toInt →
    (∀ g, mSame g h → (g 0 23) = (h 0 23) → (g 0 24) = (h 0 24) → (g 0 25) = (h 0 25) → (g 0 26) = (h 0 26) → (g 0 27) = (h 0 27) → (g 0 28) = (h 0 28) → 0 ≤ (g 0 22).toInt → Run isSm (mB h) (h 0 21).toInt.toNat (h 0 22).toInt.toNat (g 0 22).toInt.toNat → Al (k g) P) → Al (l_X7_next_100 k n h) P
  | 0, _, _, _, _, _ => al_none
  | n + 1, h, ho, h0, h1, K => by
    rw [l_X7_next_100]
    have o4 := ho.2.2.2
    refine al_oP (fun r hr => al_oP (fun r2 hr2 => ?_))
    have hb := byte_ok ho h0 r hr
    have hi := in7 hr2
    rw [l_i2l, show (97 : Int64).toInt = 97 by decide, show (122 : Int64).toInt = 122 by decide] at hi
    refine al_ite (fun c => ?_) (fun c => al_oH' (fun g hg => ?_))
    · refine K h (mSame.refl h) rfl rfl rfl rfl rfl rfl h0 (Run.stop (by omega) (fun hn => ?_))
      unfold isSm
      omega
    · have hs : isSm (mB h (h 0 22).toInt.toNat) := by unfold isSm; omega
      have hlt : (h 0 22).toInt < (h 0 21).toInt := by omega
      have hm : mSame g h := by rw [hg]; exact mSame.up (by omega)
      have e22 : (g 0 22).toInt = (h 0 22).toInt + 1 := by rw [hg]; exact inc22 h0 (by omega)
      have e21 : g 0 21 = h 0 21 := hm.2 21 (by omega)
      have ek : ∀ j, ¬ j = 22 → g 0 j = h 0 j := fun j hj => by rw [hg]; exact dU_ne (by omega)
      refine next_100 n g (hm.ok ho) (by omega) (by rw [e21]; omega) (fun f q1 q2 q3 q4 q5 q6 q7 q8 q9 => ?_)
      refine K f (q1.trans hm) (q2.trans (ek 23 (by omega))) (q3.trans (ek 24 (by omega))) (q4.trans (ek 25 (by omega))) (q5.trans (ek 26 (by omega))) (q6.trans (ek 27 (by omega))) (q7.trans (ek 28 (by omega))) q8 (Run.step hs ?_)
      rw [hm.bytes, e21, e22] at q9
      rw [show (h 0 22).toInt.toNat + 1 = ((h 0 22).toInt + 1).toNat by omega]
      exact q9
end
