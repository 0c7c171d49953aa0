/-! both readers at one token -/
noncomputable section
theorem isW.uniq {B : Nat → Int} {s e : Nat} {l m : List Int} (h1 : isW B s e l) (h2 : isW B s e m) : l = m := by
  obtain ⟨a1, a2⟩ := h1
  obtain ⟨b1, b2⟩ := h2
  apply List.ext_getElem?
  intro j
  by_cases hj : j < l.length
  · rw [← a2 j hj, ← b2 j (by omega)]
  · rw [List.getElem?_eq_none (by omega), List.getElem?_eq_none (by omega)]
theorem wN_inj : ∀ i, i < 6 → ∀ j, j < 6 → wName i = wName j → i = j := by decide
theorem wK_inj : ∀ i, i < 6 → ∀ j, j < 6 → wKey i = wKey j → i = j := by decide
theorem wNK : ∀ i, i < 6 → ∀ j, j < 6 → ¬ wName i = wKey j := by decide
theorem dg_sm {b : Int} (h1 : isDg b) (h2 : isSm b) : False := by unfold isDg at h1; unfold isSm at h2; omega
theorem Tok.uniq {B : Nat → Int} {N p : Nat} {c d : Int} {s e s' e' : Nat} {w w' : Int} (h1 : Tok B N p c s e w) (h2 : Tok B N p d s' e' w') : c = d ∧ s = s' ∧ e = e' ∧ (c = 302 ∨ c = 303 → (∀ j, j < N → B j ≤ 255) → w = w') := by
  obtain ⟨a1, a2⟩ := h1
  obtain ⟨b1, b2⟩ := h2
  have hs := a1.uniq b1
  subst hs
  rcases a2 with ⟨x1, x2, x3⟩ | ⟨x1, x2, x3, x4⟩ | ⟨x1, x2, x3, x4⟩ | ⟨x1, x2, x3, x4, x5, x6⟩
  · rcases b2 with ⟨y1, y2, y3⟩ | ⟨y1, y2, y3, y4⟩ | ⟨y1, y2, y3, y4⟩ | ⟨y1, y2, y3, y4, y5, y6⟩
    · exact ⟨by omega, rfl, by omega, fun z => by omega⟩
    all_goals omega
  · rcases b2 with ⟨y1, y2, y3⟩ | ⟨y1, y2, y3, y4⟩ | ⟨y1, y2, y3, y4⟩ | ⟨y1, y2, y3, y4, y5, y6⟩
    · omega
    · have he := x3.uniq y3
      subst he
      rcases x4 with ⟨u1, u2⟩ | ⟨u1, u2, u3⟩ <;> rcases y4 with ⟨v1, v2⟩ | ⟨v1, v2, v3⟩
      · exact ⟨by omega, rfl, rfl, fun z => by omega⟩
      · omega
      · omega
      · exact ⟨by omega, rfl, rfl, fun _ _ => by rw [u3, v3]⟩
    · exact (dg_sm x2 y2).elim
    · exact absurd x2 y2
  · rcases b2 with ⟨y1, y2, y3⟩ | ⟨y1, y2, y3, y4⟩ | ⟨y1, y2, y3, y4⟩ | ⟨y1, y2, y3, y4, y5, y6⟩
    · omega
    · exact (dg_sm y2 x2).elim
    · have he := x3.uniq y3
      subst he
      rcases x4 with ⟨i, i1, i2, i3, i4⟩ | ⟨i, i1, i2, i3⟩ | ⟨i1, i2⟩ <;> rcases y4 with ⟨j, j1, j2, j3, j4⟩ | ⟨j, j1, j2, j3⟩ | ⟨j1, j2⟩
      · have := wN_inj i i1 j j1 (i2.uniq j2)
        subst this
        exact ⟨by omega, rfl, rfl, fun _ _ => by omega⟩
      · exact absurd (i2.uniq j2) (wNK i i1 j j1)
      · exact absurd i2 (j1 i i1).1
      · exact absurd (j2.uniq i2) (wNK j j1 i i1)
      · have := wK_inj i i1 j j1 (i2.uniq j2)
        subst this
        exact ⟨by omega, rfl, rfl, fun z => by omega⟩
      · exact absurd i2 (j1 i i1).2
      · exact absurd j2 (i1 j j1).1
      · exact absurd j2 (i1 j j1).2
      · exact ⟨by omega, rfl, rfl, fun z => by omega⟩
    · exact absurd x2 y3
  · rcases b2 with ⟨y1, y2, y3⟩ | ⟨y1, y2, y3, y4⟩ | ⟨y1, y2, y3, y4⟩ | ⟨y1, y2, y3, y4, y5, y6⟩
    · omega
    · exact absurd y2 x2
    · exact absurd y2 x3
    · exact ⟨by omega, rfl, by omega, fun z q => by have := q s x1; omega⟩
section PR
variable (B : Nat → Int) (N : Nat) (P : Nat → Nat) (n : Nat)
/-- both stand at token i, whose code is c -/
def Good (i : Nat) (c : Int) (s e : Nat) (w : Int) (g h : dH) : Prop := Toks B N P n g ∧ mOk h ∧ mB h = B ∧ (h 0 21).toInt.toNat = N ∧ (∀ j, j < N → 0 ≤ B j ∧ B j ≤ 255) ∧ (g 42 4).toInt = -1 ∧ (h 0 27).toInt = 0 ∧ i ≤ n ∧ (g 42 2).toInt = i ∧ (g 42 3).toInt = c ∧ Tok B N (P i) c s e w ∧ (g 3 i).toInt = s ∧ (c = 302 ∨ c = 303 → (g 4 i).toInt = w) ∧ mtk h c s e w ∧ (¬ c = 300 → i < n ∧ P (i + 1) = e)
/-- both have found one fault -/
def Bad (g h : dH) : Prop := ¬ (g 42 4).toInt = -1 ∧ ¬ (h 0 27).toInt = 0 ∧ (h 0 28).toInt = (g 42 4).toInt ∧ (g 42 3).toInt = 301
end PR
/-- the class's reader's own numbers alone -/
def rdS (g h : dH) : Prop := ∀ a k, ¬ (a = 42 ∧ 2 ≤ k ∧ k ≤ 4) → g a k = h a k
theorem rdS.refl (h : dH) : rdS h h := fun _ _ _ => rfl
theorem rdS.trans {f g h : dH} (h1 : rdS f g) (h2 : rdS g h) : rdS f h := fun a k q => (h1 a k q).trans (h2 a k q)
theorem Toks.same {B : Nat → Int} {N : Nat} {P : Nat → Nat} {n : Nat} {g h : dH} (t : Toks B N P n h) (q : ∀ a k, a = 2 ∨ a = 3 ∨ a = 4 → g a k = h a k) : Toks B N P n g := by
  obtain ⟨t1, t2, t3, t4, t5, t6⟩ := t
  refine ⟨t1, t2, fun j hj => ?_, t4, by rw [q 2 n (by omega)]; exact t5, by rw [q 3 n (by omega)]; exact t6⟩
  obtain ⟨c, s, w, a1, a2, a3, a4, a5⟩ := t3 j hj
  exact ⟨c, s, w, a1, a2, by rw [q 2 j (by omega)]; exact a3, by rw [q 3 j (by omega)]; exact a4, fun z => by rw [q 4 j (by omega)]; exact a5 z⟩
/-- the class's token at a place -/
theorem Toks.at {B : Nat → Int} {N : Nat} {P : Nat → Nat} {n : Nat} {g : dH} (t : Toks B N P n g) {i : Nat} (hi : i ≤ n) : ∃ (c : Int) (s e : Nat) (w : Int), Tok B N (P i) c s e w ∧ (g 2 i).toInt = c ∧ (g 3 i).toInt = s ∧ (c = 302 ∨ c = 303 → (g 4 i).toInt = w) ∧ (¬ c = 300 → i < n ∧ P (i + 1) = e) := by
  obtain ⟨t1, t2, t3, t4, t5, t6⟩ := t
  by_cases h : i = n
  · subst h
    exact ⟨300, N, N, 0, t4, t5, t6, fun z => by omega, fun z => absurd rfl z⟩
  · obtain ⟨c, s, w, a1, a2, a3, a4, a5⟩ := t3 i (by omega)
    exact ⟨c, s, P (i + 1), w, a2, a3, a4, a5, fun _ => ⟨by omega, rfl⟩⟩
theorem rnext_ok {g : dH} (h0 : 0 ≤ (g 42 2).toInt) (h1 : (g 42 2).toInt < 160) : Al (f_X1_next g) (fun f => rdS f g ∧ (f 42 2).toInt = (g 42 2).toInt + 1 ∧ f 42 3 = g 2 ((g 42 2).toInt.toNat + 1) ∧ f 42 4 = g 42 4) := by
  unfold f_X1_next
  refine al_ite (fun c => al_oH' (fun g3 hg3 => al_ite (fun _ => al_oH' (fun g5 hg5 => al_some ?_)) (fun _ => al_none))) (fun c => absurd h1 c)
  have e2 : (g3 42 2).toInt = (g 42 2).toInt + 1 := by rw [hg3, dU_eq]; exact i_add rfl (by decide) (by omega) (by omega)
  refine ⟨fun a k q => by rw [hg5, dU_ne (by omega), hg3, dU_ne (by omega)], by rw [hg5, dU_ne (by omega)]; exact e2, ?_, by rw [hg5, dU_ne (by omega), hg3, dU_ne (by omega)]⟩
  rw [hg5, dU_eq, e2, show ((g 42 2).toInt + 1).toNat = (g 42 2).toInt.toNat + 1 by omega, hg3, dU_ne (by omega)]
section PR
variable {B : Nat → Int} {N : Nat} {P : Nat → Nat} {n : Nat}
/-- both go on to the next token -/
theorem Good.next {i : Nat} {c : Int} {s e : Nat} {w : Int} {g h : dH} (G : Good B N P n i c s e w g h) (hc : ¬ c = 300) (he : (h 0 22).toInt = e) {f k : dH} (hf : f_X1_next g = some f) (hk : f_X7_next h = some k) : (∃ c' s' e' w', Good B N P n (i + 1) c' s' e' w' f k) ∧ rdS f g ∧ mSame k h ∧ k 0 26 = h 0 26 := by
  obtain ⟨t, o, hB, hN, hb, b4, b27, hi, g2, g3, tk, gs, gw, mt, hn⟩ := G
  obtain ⟨hin, hp⟩ := hn hc
  have tn := t.2.1
  obtain ⟨r1, r2, r3, r4⟩ := rnext_ok (g := g) (by omega) (by omega) f hf
  have hlt := tk.lt hc
  have q := next_ok o (fun j hj => by rw [hB]; exact hb j (by omega)) (by omega) (by have := o.2.2.1; omega) k hk
  obtain ⟨m, k26, k27, k28, c', s', e', w', tk', mt'⟩ := q
  rw [hB, hN, he, Int.toNat_natCast, ← hp] at tk'
  have tf : Toks B N P n f := t.same (fun a j hj => r1 a j (by omega))
  obtain ⟨d, u, v, x, y1, y2, y3, y4, y5⟩ := tf.at (show i + 1 ≤ n by omega)
  obtain ⟨z1, z2, z3, z4⟩ := y1.uniq tk'
  subst z1 z2 z3
  have hmt : mtk k d u v x := by
    refine ⟨mt'.1, ?_⟩
    rcases mt'.2 with a | a | a | a | a | a
    · exact Or.inl a
    · exact Or.inr (Or.inl a)
    · exact Or.inr (Or.inr (Or.inl ⟨a.1, a.2.1, a.2.2.1, by rw [a.2.2.2, z4 (Or.inl a.1) (fun j hj => (hb j hj).2)]⟩))
    · exact Or.inr (Or.inr (Or.inr (Or.inl a)))
    · exact Or.inr (Or.inr (Or.inr (Or.inr (Or.inl a))))
    · exact Or.inr (Or.inr (Or.inr (Or.inr (Or.inr a))))
  refine ⟨⟨d, u, v, x, tf, m.ok o, m.bytes.trans hB, by rw [m.2 21 (by omega)]; exact hN, hb, by rw [r4]; exact b4, by rw [k27]; exact b27, by omega, by omega, ?_, y1, y3, y4, hmt, y5⟩, r1, m, k26⟩
  rw [r3, show (g 42 2).toInt.toNat = i by omega, ← y2, r1 2 (i + 1) (by omega)]
/-- both find a fault here -/
theorem Good.fail {i : Nat} {c : Int} {s e : Nat} {w : Int} {g h : dH} (G : Good B N P n i c s e w g h) {f k : dH} (hf : f_X1_fail g = some f) (hk : f_X7_fail h = some k) : Bad f k ∧ rdS f g ∧ mSame k h ∧ k 0 26 = h 0 26 := by
  obtain ⟨t, o, hB, hN, hb, b4, b27, hi, g2, g3, tk, gs, gw, mt, hn⟩ := G
  have h1 : Al (f_X1_fail g) (fun f => (f 42 4).toInt = s ∧ (f 42 3).toInt = 301 ∧ rdS f g) := by
    unfold f_X1_fail
    refine al_ite (fun _ => al_ite (fun _ => al_oH' (fun g4 hg4 => al_oH' (fun g5 hg5 => al_some ?_))) (fun _ => al_none)) (fun z => absurd b4 z)
    refine ⟨?_, by rw [hg5, dU_eq]; decide, fun a k q => by rw [hg5, dU_ne (by omega), hg4, dU_ne (by omega)]⟩
    rw [hg5, dU_ne (by omega), hg4, dU_eq, show (g 42 2).toInt.toNat = i by omega]
    exact gs
  have h2 : Al (f_X7_fail h) (fun k => (k 0 28).toInt = s ∧ (k 0 27).toInt = 1 ∧ mSame k h ∧ k 0 26 = h 0 26) := by
    unfold f_X7_fail
    refine al_ite (fun _ => al_oH' (fun g3 hg3 => al_oH' (fun g4 hg4 => al_some ?_))) (fun z => absurd b27 z)
    refine ⟨?_, by rw [hg4, dU_ne (by omega), hg3, dU_eq]; decide, by rw [hg4, hg3]; exact (mSame.up (by omega)).trans (mSame.up (by omega)), by rw [hg4, dU_ne (by omega), hg3, dU_ne (by omega)]⟩
    rw [hg4, dU_eq, hg3, dU_ne (by omega)]
    exact mt.1
  obtain ⟨a1, a2, a3⟩ := h1 f hf
  obtain ⟨b1, b2, b3, b5⟩ := h2 k hk
  exact ⟨⟨by omega, by omega, by omega, a2⟩, a3, b3, b5⟩
end PR
end
