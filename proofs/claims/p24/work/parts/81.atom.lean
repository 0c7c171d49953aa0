/-! numbers, names, what opens -/
noncomputable section
section PR
variable (B : Nat → Int) (N : Nat) (P : Nat → Nat) (n : Nat)
/-- both stand at token i, so many are open, no more steps than tokens -/
def St (k i : Nat) (g h : dH) : Prop := (∃ (c : Int) (s e : Nat) (w : Int), Good B N P n i c s e w g h) ∧ rZ g ≤ i ∧ 0 ≤ (g (rT g) 1).toInt ∧ (h 0 26).toInt = k
/-- both have read one piece, or found a fault in it -/
def Out (k D i : Nat) (g h f : dH) (o : Int32 × dH) : Prop := pF f g ∧ mSame o.2 h ∧ (o.2 0 26).toInt = k ∧ (Bad f o.2 ∨ ∃ i', St B N P n k i' f o.2 ∧ i < i' ∧ rZ f + i ≤ rZ g + i' ∧ Em (nmF h) D o.1 g f)
end PR
section PR
variable {B : Nat → Int} {N : Nat} {P : Nat → Nat} {n : Nat} {i k : Nat} {c : Int} {s e : Nat} {w : Int} {g h : dH}
theorem Good.up26 (G : Good B N P n i c s e w g h) (x : Int32) : Good B N P n i c s e w g (dU h 0 26 x) := by
  obtain ⟨t, o, hB, hN, hb, b4, b27, hi, g2, g3, tk, gs, gw, mt, hn⟩ := G
  have m : mSame (dU h 0 26 x) h := mSame.up (by omega)
  have u : ∀ j, ¬ j = 26 → dU h 0 26 x 0 j = h 0 j := fun j hj => dU_ne (by omega)
  refine ⟨t, m.ok o, m.bytes.trans hB, by rw [u 21 (by omega)]; exact hN, hb, b4, by rw [u 27 (by omega)]; exact b27, hi, g2, g3, tk, gs, gw, ?_, hn⟩
  unfold mtk at mt ⊢
  rw [u 22 (by omega), u 23 (by omega), u 24 (by omega), u 25 (by omega)]
  exact mt
theorem rdS.size {f g : dH} (q : rdS f g) : f (rT f) 1 = g (rT g) 1 := by
  have := rT_or g
  rw [q.same.1]
  exact q _ _ (by omega)
/-- one more is open, or it may not be -/
theorem opens_ok (hs : St B N P n k i g h) (G : Good B N P n i c s e w g h) (hc : ¬ c = 300) (he : (h 0 22).toInt = e) (hk : k ≤ 5) {v : Int32} (hv : v.toInt = k) {a b : Int32 × dH} (ha : f_X1_opens v g = some a) (hb : f_X7_opens h = some b) : rdS a.2 g ∧ mSame b.2 h ∧ ((k < 5 ∧ a.1.toInt = 1 ∧ b.1.toInt = 1 ∧ St B N P n (k + 1) (i + 1) a.2 b.2) ∨ (k = 5 ∧ a.1.toInt = 0 ∧ b.1.toInt = 0 ∧ Bad a.2 b.2 ∧ (b.2 0 26).toInt = k)) := by
  obtain ⟨-, hz, hz0, h26⟩ := hs
  have A : Al (f_X1_opens v g) (fun a => (k < 5 ∧ a.1.toInt = 1 ∧ f_X1_next g = some a.2) ∨ (k = 5 ∧ a.1.toInt = 0 ∧ f_X1_fail g = some a.2)) := by
    unfold f_X1_opens
    refine al_ite (fun z => al_oV' (fun f hf => al_some (Or.inl ⟨by omega, ti1, hf⟩))) (fun z => al_oV' (fun f hf => al_some (Or.inr ⟨by omega, ti0, hf⟩)))
  have M : Al (f_X7_opens h) (fun b => (k = 5 ∧ b.1.toInt = 0 ∧ f_X7_fail h = some b.2) ∨ (¬ k = 5 ∧ b.1.toInt = 1 ∧ f_X7_next (dU h 0 26 ((h 0 26) + 1)) = some b.2)) := by
    unfold f_X7_opens
    refine al_ite (fun z => al_oV' (fun f hf => al_some (Or.inl ⟨by omega, ti0, hf⟩))) (fun z => al_oH' (fun g4 hg4 => al_oV' (fun f hf => al_some (Or.inr ⟨by omega, ti1, by rw [← hg4]; exact hf⟩))))
  rcases A a ha with ⟨a1, a2, a3⟩ | ⟨a1, a2, a3⟩ <;> rcases M b hb with ⟨b1, b2, b3⟩ | ⟨b1, b2, b3⟩
  · omega
  · have he' : ((dU h 0 26 ((h 0 26) + 1)) 0 22).toInt = e := by rw [dU_ne (by omega)]; exact he
    obtain ⟨⟨c', s', e', w', G'⟩, r, m, k26⟩ := (G.up26 ((h 0 26) + 1)).next hc he' a3 b3
    refine ⟨r, m.trans (mSame.up (by omega)), Or.inl ⟨a1, a2, b2, ⟨c', s', e', w', G'⟩, by rw [r.same.2.1]; omega, by rw [r.size]; exact hz0, ?_⟩⟩
    rw [k26, dU_eq]
    have := i_add (a := h 0 26) (b := 1) h26 (by decide) (B := 1) (by omega) (by omega)
    rw [this]; omega
  · obtain ⟨q1, q2, q3, q4⟩ := G.fail a3 b3
    exact ⟨q2, q3, Or.inr ⟨a1, a2, b2, q1, by rw [q4]; exact h26⟩⟩
  · omega
theorem Tok.num {p : Nat} (tk : Tok B N p 302 s e w) (hb : ∀ j, j < N → B j ≤ 255) : 0 ≤ w := by
  rcases tk.2 with q | q | q | q
  · omega
  · rcases q.2.2.2 with u | u
    · omega
    · rw [u.2.2]
      have := q.2.2.1.2.1
      exact (numV_bd _ (fun j hj => q.2.2.1.2.2.1 _ (by omega) (by omega))).1
  · rcases q.2.2.2 with ⟨i, -, -, u, -⟩ | ⟨i, u, -, v⟩ | u
    · omega
    · omega
    · omega
  · have := hb s q.1; omega
/-- a number or a name: written, and told -/
theorem lit_ok (hs : St B N P n k i g h) (G : Good B N P n i c s e w g h) (he : (h 0 22).toInt = e) {x v : Int32} (hx : x.toInt = w) (hc : (c = 302 ∧ v.toInt = w) ∨ (∃ j : Nat, j < 6 ∧ c = 303 ∧ w = -1 - (j : Int) ∧ v = h 0 (14 + j))) {g1 f m : dH} (h1 : f_X5_write (dtx (g 42 1)) x g = some g1) (h2 : f_X1_next g1 = some f) (h3 : f_X7_next h = some m) : Out B N P n k 1 i g h f (v, m) := by
  obtain ⟨-, hz, hz0, h26⟩ := hs
  have hc300 : ¬ c = 300 := by rcases hc with q | ⟨j, -, q, -⟩ <;> omega
  have hn := (G.2.2.2.2.2.2.2.2.2.2.2.2.2.2 hc300).1
  have tn := G.1.2.1
  obtain ⟨w1, w2, w3, w4, w5, w6⟩ := write_ok hz0 (by omega) g1 h1
  have G1 : Good B N P n i c s e w g1 h := by
    obtain ⟨t, o, hB, hN, hb, b4, b27, hi, g2, g3, tk, gs, gw, mt, hn⟩ := G
    exact ⟨t.same w1.rows, o, hB, hN, hb, by rw [w2]; exact b4, b27, hi, by rw [w2]; exact g2, by rw [w2]; exact g3, tk, by rw [w1.rows 3 i (by omega)]; exact gs, fun z => by rw [w1.rows 4 i (by omega)]; exact gw z, mt, hn⟩
  obtain ⟨⟨c', s', e', w', G'⟩, r, mm, k26⟩ := G1.next hc300 he h2 h3
  have e1 : Em (nmF h) 1 (if 0 ≤ x.toInt then x else nmF h (-1 - x.toInt).toNat) g g1 := Em.lit ⟨w3, w5, w6⟩ (by
    rcases hc with ⟨q, -⟩ | ⟨j, j1, -, q, -⟩
    · subst q
      have := G.2.2.2.2.2.2.2.2.2.2.1.num (fun j hj => (G.2.2.2.2.1 j hj).2)
      omega
    · omega)
  have ev : (if 0 ≤ x.toInt then x else nmF h (-1 - x.toInt).toNat) = v := by
    rcases hc with ⟨q, q2⟩ | ⟨j, j1, -, q, q2⟩
    · subst q
      have := G.2.2.2.2.2.2.2.2.2.2.1.num (fun j hj => (G.2.2.2.2.1 j hj).2)
      rw [if_pos (by omega)]
      exact Int32.toInt_inj.mp (by omega)
    · rw [if_neg (by omega), q2, show (-1 - x.toInt).toNat = j by omega]; exact if_pos j1
  rw [ev] at e1
  have k9 : (m 0 26).toInt = k := by rw [k26]; exact h26
  refine ⟨r.pF.trans w1, mm, k9, Or.inr ⟨i + 1, ⟨⟨c', s', e', w', G'⟩, by rw [r.same.2.1]; omega, ?_, k9⟩, by omega, by rw [r.same.2.1]; omega, e1.right r⟩⟩
  rw [r.size, w1.tx]
  exact w4
end PR
end
