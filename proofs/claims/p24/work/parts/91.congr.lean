/-! tokens hang on the text's bytes alone; the first token -/
noncomputable section
theorem Run.congr {B C : Nat → Int} {N : Nat} (hBC : ∀ j, j < N → B j = C j) {f : Int → Prop} {p q : Nat} (h : Run f B N p q) : Run f C N p q := by
  obtain ⟨a1, a2, a3, a4⟩ := h
  exact ⟨a1, a2, fun j j1 j2 => by rw [← hBC j (by omega)]; exact a3 j j1 j2, fun z => by rw [← hBC q z]; exact a4 z⟩
theorem isW.congr {B C : Nat → Int} {N : Nat} (hBC : ∀ j, j < N → B j = C j) {s e : Nat} {l : List Int} (he : e ≤ N) : isW B s e l ↔ isW C s e l := by
  unfold isW
  constructor
  · intro ⟨h1, h2⟩
    exact ⟨h1, fun j hj => by rw [← hBC _ (by omega)]; exact h2 j hj⟩
  · intro ⟨h1, h2⟩
    exact ⟨h1, fun j hj => by rw [hBC _ (by omega)]; exact h2 j hj⟩
theorem numV_congr {B C : Nat → Int} {N : Nat} (hBC : ∀ j, j < N → B j = C j) {s : Nat} : ∀ n, s + n ≤ N → numV B s n = numV C s n
  | 0, _ => rfl
  | n + 1, h => by
    rw [numV, numV, numV_congr hBC n (by omega), hBC _ (by omega)]
theorem Tok.congr {B C : Nat → Int} {N : Nat} (hBC : ∀ j, j < N → B j = C j) {p : Nat} {c : Int} {s e : Nat} {w : Int} (h : Tok B N p c s e w) : Tok C N p c s e w := by
  obtain ⟨h1, h2⟩ := h
  refine ⟨h1.congr hBC, ?_⟩
  rcases h2 with q | ⟨q1, q2, q3, q4⟩ | ⟨q1, q2, q3, q4⟩ | ⟨q1, q2, q3, q4, q5, q6⟩
  · exact Or.inl q
  · have l1 := q3.1
    have l2 := q3.2.1
    rw [hBC s q1] at q2
    refine Or.inr (Or.inl ⟨q1, q2, q3.congr hBC, ?_⟩)
    rcases q4 with q4 | ⟨a, b, c⟩
    · exact Or.inl q4
    · exact Or.inr ⟨a, b, by rw [c, numV_congr hBC _ (by omega)]⟩
  · have l2 := q3.2.1
    rw [hBC s q1] at q2
    refine Or.inr (Or.inr (Or.inl ⟨q1, q2, q3.congr hBC, ?_⟩))
    rcases q4 with ⟨i, i1, i2, i3, i4⟩ | ⟨i, i1, i2, i3⟩ | ⟨i1, i2⟩
    · exact Or.inl ⟨i, i1, (isW.congr hBC l2).mp i2, i3, i4⟩
    · exact Or.inr (Or.inl ⟨i, i1, (isW.congr hBC l2).mp i2, i3⟩)
    · exact Or.inr (Or.inr ⟨fun i hi => ⟨fun z => (i1 i hi).1 ((isW.congr hBC l2).mpr z), fun z => (i1 i hi).2 ((isW.congr hBC l2).mpr z)⟩, i2⟩)
  · rw [hBC s q1] at q2 q3 q4 q5
    exact Or.inr (Or.inr (Or.inr ⟨q1, q2, q3, q4, q5, q6⟩))
theorem Toks.congr {B C : Nat → Int} {N : Nat} (hBC : ∀ j, j < N → B j = C j) {P : Nat → Nat} {n : Nat} {g : dH} (t : Toks B N P n g) : Toks C N P n g := by
  obtain ⟨t1, t2, t3, t4, t5, t6⟩ := t
  refine ⟨t1, t2, fun j hj => ?_, t4.congr hBC, t5, t6⟩
  obtain ⟨c, s, w, a1, a2, a3, a4, a5⟩ := t3 j hj
  exact ⟨c, s, w, a1, a2.congr hBC, a3, a4, a5⟩
section PR
variable {B : Nat → Int} {N : Nat} {P : Nat → Nat} {n : Nat} {g h : dH}
/-- both at the first token -/
theorem Good.first (t : Toks B N P n g) (o : mOk h) (hB : mB h = B) (hN : (h 0 21).toInt.toNat = N) (hb : ∀ j, j < N → 0 ≤ B j ∧ B j ≤ 255) (b4 : (g 42 4).toInt = -1) (b27 : (h 0 27).toInt = 0) (h22 : (h 0 22).toInt = 0) (g2 : (g 42 2).toInt = 0) (g3 : g 42 3 = g 2 0) {k : dH} (hk : f_X7_next h = some k) : (∃ c s e w, Good B N P n 0 c s e w g k) ∧ mSame k h ∧ k 0 26 = h 0 26 := by
  have q := next_ok o (fun j hj => by rw [hB]; exact hb j (by omega)) (by omega) (by have := o.2.2.1; omega) k hk
  obtain ⟨m, k26, k27, k28, c', s', e', w', tk', mt'⟩ := q
  rw [hB, hN, h22, show (0 : Int).toNat = 0 from rfl, ← t.1] at tk'
  obtain ⟨d, u, v, x, y1, y2, y3, y4, y5⟩ := t.at (Nat.zero_le n)
  obtain ⟨z1, z2, z3, z4⟩ := y1.uniq tk'
  subst z1 z2 z3
  have hmt : mtk k d u v x := by
    refine ⟨mt'.1, ?_⟩
    rcases mt'.2 with a | a | a | a | a | a
    · exact Or.inl a
    · exact Or.inr (Or.inl a)
    · exact Or.inr (Or.inr (Or.inl ⟨a.1, a.2.1, a.2.2.1, by rw [a.2.2.2, z4 (Or.inl a.1) (fun j hj => (hb j hj).2)]⟩))
    · exact Or.inr (Or.inr (Or.inr (Or.inl a)))
    · exact Or.inr (Or.inr (Or.inr (Or.inr (Or.inl a))))
    · exact Or.inr (Or.inr (Or.inr (Or.inr (Or.inr a))))
  exact ⟨⟨d, u, v, x, t, m.ok o, m.bytes.trans hB, by rw [m.2 21 (by omega)]; exact hN, hb, b4, by rw [k27]; exact b27, Nat.zero_le _, by omega, by rw [g3]; exact y2, y1, y3, y4, hmt, y5⟩, m, k26⟩
end PR
/-! a part, text by text -/
def tP4 (v : Int32) (g : dH) : Option (Int32 × dH) := if (g 0 27).toInt = 0 then (oV (f_X7_next g) (fun k => some (v, k))) else (some (v, g))
def tP3 (v : Int32) (g : dH) : Option (Int32 × dH) := oP (f_X7_isSign 59 g) (fun r => if r.toInt = 0 then (oV (f_X7_fail g) (fun k => tP4 v k)) else (tP4 v g))
def tP2 (g : dH) : Option (Int32 × dH) := if (g 0 27).toInt = 0 then (oI (f_X7_either0 g) (fun r k => tP3 r k)) else (tP3 0 g)
def tP1 (g : dH) : Option (Int32 × dH) := if (g 0 27).toInt = 0 then (oV (f_X7_next g) (fun k => tP2 k)) else (tP2 g)
def tPart (v : Int32) (h : dH) : Option (Int32 × dH) := if v.toInt = 0 then (oV (f_X7_fail h) (fun k => tP1 k)) else (tP1 h)
theorem part_t (v : Int32) (h : dH) : f_X7_part v h = tPart v h := rfl
def tR3 (v : Int32) (p q r : Int32) (g : dH) : Option (Int32 × dH) := if v.toInt = 0 then (some (p, g)) else (if v.toInt = 1 then (some (q, g)) else (some (r, g)))
def tR2 (v : Int32) (p q r : Int32) (g : dH) : Option (Int32 × dH) := if (g 0 27).toInt = 0 then (if (g 0 23).toInt = 0 then (tR3 v p q r g) else (oV (f_X7_fail g) (fun k => tR3 v p q r k))) else (tR3 v p q r g)
def tR1 (v : Int32) (p q : Int32) (g : dH) : Option (Int32 × dH) := if (g 0 27).toInt = 0 then (oP (f_X7_isWord 115 111 117 110 100 115 0 0 g) (fun w => oI (f_X7_part w g) (fun r k => tR2 v p q r k))) else (tR2 v p q 0 g)
def tR0 (v : Int32) (p : Int32) (g : dH) : Option (Int32 × dH) := if (g 0 27).toInt = 0 then (oP (f_X7_isWord 102 97 100 101 115 0 0 0 g) (fun w => oI (f_X7_part w g) (fun q k => tR1 v p q k))) else (tR1 v p 0 g)
def tRead (v1 v2 : Int32) (h : dH) : Option (Int32 × dH) := oH (dU h 0 20 (160 * v1)) (fun g1 => if 0 ≤ v1.toInt ∧ v1.toInt < 6 then (oH (dU g1 0 21 (g1 2 (v1.toInt.toNat))) (fun g3 => oH (dU g3 0 22 0) (fun g4 => oH (dU g4 0 26 0) (fun g5 => oH (dU g5 0 27 0) (fun g6 => oV (f_X7_next g6) (fun g7 => oP (f_X7_isWord 109 101 101 116 115 0 0 0 g7) (fun w => oI (f_X7_part w g7) (fun p k => tR0 v2 p k)))))))) else none)
theorem read_t (v1 v2 : Int32) (h : dH) : f_X7_read v1 v2 h = tRead v1 v2 h := rfl
end
