section
/-! numbers, names, what opens -/
noncomputable section
section PR
variable (B : Nat → Int) (N : Nat) (P : Nat → Nat) (n : Nat)
/-- both stand at token i, so many are open, no more steps than tokens -/
def St (k i : Nat) (g h : dH) : Prop := (∃ (c : Int) (s e : Nat) (w : Int), Good B N P n i c s e w g h) ∧ rZ g ≤ i ∧ 0 ≤ (g (rT g) 1).toInt ∧ (h 0 26).toInt = k
/-- both have read one piece, or found a fault in it -/
def Out (k D i : Nat) (g h f : dH) (o : Int32 × dH) : Prop := pF f g ∧ mSame o.2 h ∧ (o.2 0 26).toInt = k ∧ (Bad f o.2 ∨ ∃ i', St B N P n k i' f o.2 ∧ i < i' ∧ rZ f + i ≤ rZ g + i' ∧ Em (nmF h) D o.1 g f)
end PR
section PR
variable {B : Nat → Int} {N : Nat} {P : Nat → Nat} {n : Nat} {i k : Nat} {c : Int} {s e : Nat} {w : Int} {g h : dH}
theorem Good.up26 (G : Good B N P n i c s e w g h) (x : Int32) : Good B N P n i c s e w g (dU h 0 26 x) := by
  obtain ⟨t, o, hB, hN, hb, b4, b27, hi, g2, g3, tk, gs, gw, mt, hn⟩ := G
  have m : mSame (dU h 0 26 x) h := mSame.up (by omega)
  have u : ∀ j, ¬ j = 26 → dU h 0 26 x 0 j = h 0 j := fun j hj => dU_ne (by omega)
  refine ⟨t, m.ok o, m.bytes.trans hB, by rw [u 21 (by omega)]; exact hN, hb, b4, by rw [u 27 (by omega)]; exact b27, hi, g2, g3, tk, gs, gw, ?_, hn⟩
  unfold mtk at mt ⊢
  rw [u 22 (by omega), u 23 (by omega), u 24 (by omega), u 25 (by omega)]
  exact mt
theorem rdS.size {f g : dH} (q : rdS f g) : f (rT f) 1 = g (rT g) 1 := by
  have := rT_or g
  rw [q.same.1]
  exact q _ _ (by omega)
/-- one more is open, or it may not be -/
theorem opens_ok (hs : St B N P n k i g h) (G : Good B N P n i c s e w g h) (hc : ¬ c = 300) (he : (h 0 22).toInt = e) (hk : k ≤ 5) {v : Int32} (hv : v.toInt = k) {a b : Int32 × dH} (ha : f_X1_opens v g = some a) (hb : f_X7_opens h = some b) : rdS a.2 g ∧ mSame b.2 h ∧ ((k < 5 ∧ a.1.toInt = 1 ∧ b.1.toInt = 1 ∧ St B N P n (k + 1) (i + 1) a.2 b.2) ∨ (k = 5 ∧ a.1.toInt = 0 ∧ b.1.toInt = 0 ∧ Bad a.2 b.2 ∧ (b.2 0 26).toInt = k)) := by
  obtain ⟨-, hz, hz0, h26⟩ := hs
  have A : Al (f_X1_opens v g) (fun a => (k < 5 ∧ a.1.toInt = 1 ∧ f_X1_next g = some a.2) ∨ (k = 5 ∧ a.1.toInt = 0 ∧ f_X1_fail g = some a.2)) := by
    unfold f_X1_opens
    refine al_ite (fun z => al_oV' (fun f hf => al_some (Or.inl ⟨by omega, ti1, hf⟩))) (fun z => al_oV' (fun f hf => al_some (Or.inr ⟨by omega, ti0, hf⟩)))
  have M : Al (f_X7_opens h) (fun b => (k = 5 ∧ b.1.toInt = 0 ∧ f_X7_fail h = some b.2) ∨ (¬ k = 5 ∧ b.1.toInt = 1 ∧ f_X7_next (dU h 0 26 ((h 0 26) + 1)) = some b.2)) := by
    unfold f_X7_opens
    refine al_ite (fun z => al_oV' (fun f hf => al_some (Or.inl ⟨by omega, ti0, hf⟩))) (fun z => al_oH' (fun g4 hg4 => al_oV' (fun f hf => al_some (Or.inr ⟨by omega, ti1, by rw [← hg4]; exact hf⟩))))
  rcases A a ha with ⟨a1, a2, a3⟩ | ⟨a1, a2, a3⟩ <;> rcases M b hb with ⟨b1, b2, b3⟩ | ⟨b1, b2, b3⟩
  · omega
  · have he' : ((dU h 0 26 ((h 0 26) + 1)) 0 22).toInt = e := by rw [dU_ne (by omega)]; exact he
    obtain ⟨⟨c', s', e', w', G'⟩, r, m, k26⟩ := (G.up26 ((h 0 26) + 1)).next hc he' a3 b3
    refine ⟨r, m.trans (mSame.up (by omega)), Or.inl ⟨a1, a2, b2, ⟨c', s', e', w', G'⟩, by rw [r.same.2.1]; omega, by rw [r.size]; exact hz0, ?_⟩⟩
    rw [k26, dU_eq]
    have := i_add (a := h 0 26) (b := 1) h26 (by decide) (B := 1) (by omega) (by omega)
    rw [this]; omega
  · obtain ⟨q1, q2, q3, q4⟩ := G.fail a3 b3
    exact ⟨q2, q3, Or.inr ⟨a1, a2, b2, q1, by rw [q4]; exact h26⟩⟩
  · omega
theorem Tok.num {p : Nat} (tk : Tok B N p 302 s e w) (hb : ∀ j, j < N → B j ≤ 255) : 0 ≤ w := by
  rcases tk.2 with q | q | q | q
  · omega
  · rcases q.2.2.2 with u | u
    · omega
    · rw [u.2.2]
      have := q.2.2.1.2.1
      exact (numV_bd _ (fun j hj => q.2.2.1.2.2.1 _ (by omega) (by omega))).1
  · rcases q.2.2.2 with ⟨i, -, -, u, -⟩ | ⟨i, u, -, v⟩ | u
    · omega
    · omega
    · omega
  · have := hb s q.1; omega
/-- a number or a name: written, and told -/
theorem lit_ok (hs : St B N P n k i g h) (G : Good B N P n i c s e w g h) (he : (h 0 22).toInt = e) {x v : Int32} (hx : x.toInt = w) (hc : (c = 302 ∧ v.toInt = w) ∨ (∃ j : Nat, j < 6 ∧ c = 303 ∧ w = -1 - (j : Int) ∧ v = h 0 (14 + j))) {g1 f m : dH} (h1 : f_X5_write (dtx (g 42 1)) x g = some g1) (h2 : f_X1_next g1 = some f) (h3 : f_X7_next h = some m) : Out B N P n k 1 i g h f (v, m) := by
  obtain ⟨-, hz, hz0, h26⟩ := hs
  have hc300 : ¬ c = 300 := by rcases hc with q | ⟨j, -, q, -⟩ <;> omega
  have hn := (G.2.2.2.2.2.2.2.2.2.2.2.2.2.2 hc300).1
  have tn := G.1.2.1
  obtain ⟨w1, w2, w3, w4, w5, w6⟩ := write_ok hz0 (by omega) g1 h1
  have G1 : Good B N P n i c s e w g1 h := by
    obtain ⟨t, o, hB, hN, hb, b4, b27, hi, g2, g3, tk, gs, gw, mt, hn⟩ := G
    exact ⟨t.same w1.rows, o, hB, hN, hb, by rw [w2]; exact b4, b27, hi, by rw [w2]; exact g2, by rw [w2]; exact g3, tk, by rw [w1.rows 3 i (by omega)]; exact gs, fun z => by rw [w1.rows 4 i (by omega)]; exact gw z, mt, hn⟩
  obtain ⟨⟨c', s', e', w', G'⟩, r, mm, k26⟩ := G1.next hc300 he h2 h3
  have e1 : Em (nmF h) 1 (if 0 ≤ x.toInt then x else nmF h (-1 - x.toInt).toNat) g g1 := Em.lit ⟨w3, w5, w6⟩ (by
    rcases hc with ⟨q, -⟩ | ⟨j, j1, -, q, -⟩
    · subst q
      have := G.2.2.2.2.2.2.2.2.2.2.1.num (fun j hj => (G.2.2.2.2.1 j hj).2)
      omega
    · omega)
  have ev : (if 0 ≤ x.toInt then x else nmF h (-1 - x.toInt).toNat) = v := by
    rcases hc with ⟨q, q2⟩ | ⟨j, j1, -, q, q2⟩
    · subst q
      have := G.2.2.2.2.2.2.2.2.2.2.1.num (fun j hj => (G.2.2.2.2.1 j hj).2)
      rw [if_pos (by omega)]
      exact Int32.toInt_inj.mp (by omega)
    · rw [if_neg (by omega), q2, show (-1 - x.toInt).toNat = j by omega]; exact if_pos j1
  rw [ev] at e1
  have k9 : (m 0 26).toInt = k := by rw [k26]; exact h26
  refine ⟨r.pF.trans w1, mm, k9, Or.inr ⟨i + 1, ⟨⟨c', s', e', w', G'⟩, by rw [r.same.2.1]; omega, ?_, k9⟩, by omega, by rw [r.same.2.1]; omega, e1.right r⟩⟩
  rw [r.size, w1.tx]
  exact w4
end PR
end
end

section
/-! numbers, names, minus, brackets: both alike -/
noncomputable section
def tAtom (E A : dH → Option (Int32 × dH)) (h : dH) : Option (Int32 × dH) := oP (f_X7_isSign 45 h) (fun r1 => if r1.toInt = 0 then (oP (f_X7_isSign 40 h) (fun r4 => if r4.toInt = 0 then (if (h 0 27).toInt = 0 then (if (h 0 23).toInt = 2 then (oV (f_X7_next  h) (fun g11 => some ((h 0 25).toInt64.toInt32, g11))) else (if (h 0 27).toInt = 0 then (if (h 0 23).toInt = 1 then (oI (f_X7_name  h) (fun r16 g17 => if (g17 0 27).toInt = 0 then (oV (f_X7_next  g17) (fun g20 => some (r16, g20))) else (some (r16, g17)))) else (oV (f_X7_fail  h) (fun g21 => some (0, g21)))) else (oV (f_X7_fail  h) (fun g22 => some (0, g22))))) else (if (h 0 27).toInt = 0 then (if (h 0 23).toInt = 1 then (oI (f_X7_name  h) (fun r27 g28 => if (g28 0 27).toInt = 0 then (oV (f_X7_next  g28) (fun g31 => some (r27, g31))) else (some (r27, g28)))) else (oV (f_X7_fail  h) (fun g32 => some (0, g32)))) else (oV (f_X7_fail  h) (fun g33 => some (0, g33))))) else (oI (f_X7_opens  h) (fun r34 g35 => if r34.toInt = 0 then (some (0, g35)) else (oI (E  g35) (fun r38 g39 => oP (f_X7_isSign 41 g39) (fun r40 => if r40.toInt = 0 then (oV (f_X7_fail  g39) (fun g43 => oH (dU g43 0 26 ((g43 0 26) - 1)) (fun g44 => if (g44 0 27).toInt = 0 then (oV (f_X7_next  g44) (fun g47 => some (r38, g47))) else (some (r38, g44))))) else (oH (dU g39 0 26 ((g39 0 26) - 1)) (fun g48 => if (g48 0 27).toInt = 0 then (oV (f_X7_next  g48) (fun g51 => some (r38, g51))) else (some (r38, g48))))))))))) else (oI (f_X7_opens  h) (fun r52 g53 => if r52.toInt = 0 then (some (0, g53)) else (oI (A  g53) (fun r56 g57 => oH (dU g57 0 26 ((g57 0 26) - 1)) (fun g58 => some ((-r56), g58)))))))
theorem atom0_t (h : dH) : f_X7_atom0 h = tAtom f_X7_either1 f_X7_atom1 h := rfl
theorem atom1_t (h : dH) : f_X7_atom1 h = tAtom f_X7_either2 f_X7_atom2 h := rfl
theorem atom2_t (h : dH) : f_X7_atom2 h = tAtom f_X7_either3 f_X7_atom3 h := rfl
theorem atom3_t (h : dH) : f_X7_atom3 h = tAtom f_X7_either4 f_X7_atom4 h := rfl
theorem atom4_t (h : dH) : f_X7_atom4 h = tAtom f_X7_either5 f_X7_atom5 h := rfl
section PR
variable {B : Nat → Int} {N : Nat} {P : Nat → Nat} {n : Nat} {i k : Nat} {c : Int} {s e : Nat} {w : Int} {g h : dH}
theorem Good.here (G : Good B N P n i c s e w g h) (hc : c = 302 ∨ (303 ≤ c ∧ c ≤ 309) ∨ isSg c) : (h 0 22).toInt = e := by
  have m2 := G.2.2.2.2.2.2.2.2.2.2.2.2.2.1.2
  unfold isSg at m2 hc
  omega
/-- the answer of a fault on both sides -/
theorem Out.bad {D : Nat} {f m : dH} {v : Int32} (p : pF f g) (q : mSame m h) (r : (m 0 26).toInt = k) (b : Bad f m) : Out B N P n k D i g h f (v, m) := ⟨p, q, r, Or.inl b⟩
theorem Bad.cb {f m : dH} (b : Bad f m) : cBad f := ⟨b.1, b.2.2.2⟩
/-- a fault that is kept -/
theorem Bad.stay {f f' m : dH} (b : Bad f m) (q : cStay f' f) : Bad f' m := ⟨by rw [q.2.1]; exact b.1, b.2.1, by rw [q.2.1]; exact b.2.2.1, q.2.2.2⟩
/-- a step written behind a piece -/
theorem Wr.of {f g1 : dH} {x : Int32} (h0 : 0 ≤ (f (rT f) 1).toInt) (h1 : rZ f < 160) (hw : f_X5_write (dtx (f 42 1)) x f = some g1) : Wr x f g1 ∧ pF g1 f ∧ (∀ k, g1 42 k = f 42 k) ∧ 0 ≤ (g1 (rT g1) 1).toInt := by
  obtain ⟨w1, w2, w3, w4, w5, w6⟩ := write_ok h0 h1 g1 hw
  exact ⟨⟨w3, w5, w6⟩, w1, w2, by rw [w1.tx]; exact w4⟩
/-- a step, be there room or not -/
theorem write_any {g : dH} {x : Int32} : Al (f_X5_write (dtx (g 42 1)) x g) (fun f => pF f g ∧ ∀ k, f 42 k = g 42 k) := by
  have ht := rT_or g
  unfold f_X5_write
  refine al_ite (fun c => al_ite (fun c1 => al_oH' (fun g1 hg1 => al_oH' (fun g2 hg2 => al_some ⟨fun a k a1 a2 a3 => ?_, fun k => ?_⟩))) (fun _ => al_none)) (fun c => al_some ⟨pF.refl g, fun _ => rfl⟩)
  · rw [hg2, dU_ne (by unfold rT at a2; exact a2), hg1, dU_ne (by unfold rT at a3; omega)]
  · rw [hg2, dU_ne (by unfold rT at ht; omega), hg1, dU_ne (by unfold rT at ht; omega)]
theorem Bad.eq {f f' m m' : dH} (b : Bad f m) (q : ∀ k, f' 42 k = f 42 k) (r : ∀ j, ¬ j = 26 → m' 0 j = m 0 j) : Bad f' m' := by
  unfold Bad at b ⊢
  rw [q, q, r 27 (by omega), r 28 (by omega)]
  exact b
theorem Good.wr {g1 : dH} (G : Good B N P n i c s e w g h) (p : pF g1 g) (q : ∀ k, g1 42 k = g 42 k) : Good B N P n i c s e w g1 h := by
  obtain ⟨t, o, hB, hN, hb, b4, b27, hi, g2, g3, tk, gs, gw, mt, hn⟩ := G
  exact ⟨t.same p.rows, o, hB, hN, hb, by rw [q]; exact b4, b27, hi, by rw [q]; exact g2, by rw [q]; exact g3, tk, by rw [p.rows 3 i (by omega)]; exact gs, fun z => by rw [p.rows 4 i (by omega)]; exact gw z, mt, hn⟩
/-- what the class does with its token, behind an opening sign -/
theorem one_minus {m : Nat} (hk : k < 5) {A : dH → Option (Int32 × dH)} (hA : ∀ (n' : Nat) (v : Int32) (g h : dH) (i : Nat) (f : dH) (o : Int32 × dH), v.toInt = k + 1 → St B N P n (k + 1) i g h → f_X1_readOne (f_X1_read m) n' v g = some f → A h = some o → Out B N P n (k + 1) (1 + 5 * (5 - (k + 1))) i g h f o) (hs : St B N P n k i g h) (G : Good B N P n i 45 s e w g h) {n' : Nat} {v : Int32} (hv : v.toInt = k) : Al (oI (f_X1_opens v g) (fun r13 g14 => if r13.toInt = 0 then (some g14) else (oV (f_X1_readOne (f_X1_read m) n' (v + 1) g14) (fun g17 => oV (f_X5_write (dtx (g17 42 1)) (-15) g17) (fun g18 => some g18))))) (fun f => ∀ o, oI (f_X7_opens h) (fun r52 g53 => if r52.toInt = 0 then (some (0, g53)) else (oI (A g53) (fun r56 g57 => oH (dU g57 0 26 ((g57 0 26) - 1)) (fun g58 => some ((-r56), g58))))) = some o → Out B N P n k (1 + 5 * (5 - k)) i g h f o) := by
  have he := G.here (Or.inr (Or.inr (by unfold isSg; omega)))
  refine al_oI (fun a g14 ha => ?_)
  intro f hf
  refine al_oI (fun b g53 hb => ?_)
  obtain ⟨r, mm, q⟩ := opens_ok hs G (by omega) he (by omega) hv ha hb
  simp only at r mm q
  rcases q with ⟨k1, a1, b1, S1⟩ | ⟨k1, -⟩
  · rw [if_neg (by omega)] at hf
    rw [if_neg (by omega)]
    have tv : (v + 1).toInt = (k : Int) + 1 := i_add hv (by decide) (by omega) (by omega)
    refine al_oI (fun r56 g57 h57 => al_oH' (fun g58 h58 => al_some ?_))
    revert f
    refine al_oV' (fun g17 h17 => al_oV' (fun g18 h18 => al_some ?_))
    have O := hA n' (v + 1) g14 g53 (i + 1) g17 (r56, g57) (by rw [tv]) S1 h17 h57
    obtain ⟨o1, o2, o3, o4⟩ := O
    simp only at o2 o3 o4
    have m58 : mSame g58 h := by rw [h58]; exact (mSame.up (by omega)).trans (o2.trans mm)
    have k58 : (g58 0 26).toInt = k := by
      rw [h58, dU_eq]
      have := i_sub (a := g57 0 26) (b := 1) o3 (by decide) (B := 1) (by omega) (by omega)
      rw [this]; omega
    have u58 : ∀ j, ¬ j = 26 → g58 0 j = g57 0 j := fun j hj => by rw [h58]; exact dU_ne (by omega)
    rcases o4 with bd | ⟨i', S2, hi, hz, em⟩
    · obtain ⟨p, q⟩ := write_any g18 h18
      exact Out.bad (p.trans (o1.trans r.pF)) m58 k58 (bd.eq q u58)
    · obtain ⟨⟨c', s', e', w', G2⟩, z2, z20, z26⟩ := S2
      have tn := G2.1.2.1
      have hin := G2.2.2.2.2.2.2.2.1
      have hz0 := hs.2.1
      have e14 := r.same.2.1
      obtain ⟨wr, p, q, y0⟩ := Wr.of z20 (by omega) h18
      have em1 : Em (nmF h) (1 + 5 * (5 - (k + 1))) r56 g g17 := (em.nm mm.nm).left r
      have em2 := (em1.un wr (by decide)).mono (show 1 + 5 * (5 - (k + 1)) ≤ 1 + 5 * (5 - k) by omega)
      rw [show trn (-15) r56 = -r56 from if_pos (by decide)] at em2
      have G3 := (G2.wr p q).up26 ((g57 0 26) - 1)
      rw [← h58] at G3
      refine ⟨p.trans (o1.trans r.pF), m58, k58, Or.inr ⟨i', ⟨⟨c', s', e', w', G3⟩, ?_, y0, k58⟩, by omega, ?_, em2⟩⟩
      · rw [wr.1]; omega
      · rw [wr.1]; omega
  · omega
/-- in brackets -/
theorem one_paren {m : Nat} (hk : k < 5) {E : dH → Option (Int32 × dH)} (hE : ∀ (v1 v2 : Int32) (g h : dH) (i : Nat) (f : dH) (o : Int32 × dH), v1.toInt = 0 → v2.toInt = k + 1 → St B N P n (k + 1) i g h → f_X1_read m v1 v2 g = some f → E h = some o → Out B N P n (k + 1) (6 + 5 * (5 - (k + 1))) i g h f o) (hs : St B N P n k i g h) (G : Good B N P n i 40 s e w g h) {v : Int32} (hv : v.toInt = k) : Al (oI (f_X1_opens v g) (fun r21 g22 => if r21.toInt = 0 then (some g22) else (oV (f_X1_read m 0 (v + 1) g22) (fun g25 => oV (f_X1_expect 41 g25) (fun g26 => some g26))))) (fun f => ∀ o, oI (f_X7_opens h) (fun r34 g35 => if r34.toInt = 0 then (some (0, g35)) else (oI (E g35) (fun r38 g39 => oP (f_X7_isSign 41 g39) (fun r40 => if r40.toInt = 0 then (oV (f_X7_fail g39) (fun g43 => oH (dU g43 0 26 ((g43 0 26) - 1)) (fun g44 => if (g44 0 27).toInt = 0 then (oV (f_X7_next g44) (fun g47 => some (r38, g47))) else (some (r38, g44))))) else (oH (dU g39 0 26 ((g39 0 26) - 1)) (fun g48 => if (g48 0 27).toInt = 0 then (oV (f_X7_next g48) (fun g51 => some (r38, g51))) else (some (r38, g48)))))))) = some o → Out B N P n k (1 + 5 * (5 - k)) i g h f o) := by
  have he := G.here (Or.inr (Or.inr (by unfold isSg; omega)))
  refine al_oI (fun a g22 ha => ?_)
  intro f hf
  refine al_oI (fun b g35 hb => ?_)
  obtain ⟨r, mm, q⟩ := opens_ok hs G (by omega) he (by omega) hv ha hb
  simp only at r mm q
  rcases q with ⟨k1, a1, b1, S1⟩ | ⟨k1, -⟩
  · rw [if_neg (by omega)] at hf
    rw [if_neg (by omega)]
    have tv : (v + 1).toInt = (k : Int) + 1 := i_add hv (by decide) (by omega) (by omega)
    refine al_oI (fun r38 g39 h39 => al_oP (fun r40 h40 => ?_))
    revert f
    refine al_oV' (fun g25 h25 => al_oV' (fun g26 h26 => al_some ?_))
    obtain ⟨o1, o2, o3, o4⟩ := hE 0 (v + 1) g22 g35 (i + 1) g25 (r38, g39) ti0 (by rw [tv]) S1 h25 h39
    simp only at o2 o3 o4
    have m39 : mSame g39 h := o2.trans mm
    -- one fewer is open
    have dn : ∀ x y : dH, (x 0 26).toInt = (k : Int) + 1 → y = dU x 0 26 ((x 0 26) - 1) → (y 0 26).toInt = k ∧ (∀ j, ¬ j = 26 → y 0 j = x 0 j) ∧ mSame y x := by
      intro x y hx hy
      refine ⟨?_, fun j hj => by rw [hy]; exact dU_ne (by omega), by rw [hy]; exact mSame.up (by omega)⟩
      rw [hy, dU_eq]
      have := i_sub (a := x 0 26) (b := 1) hx (by decide) (B := 1) (by omega) (by omega)
      rw [this]; omega
    rcases o4 with bd | ⟨i', S2, hi, hz, em⟩
    · -- the fault is in the brackets
      have c26 := cbad_expect bd.cb (by decide) g26 h26
      have r0 := bad_sign (v := 41) bd.2.1 r40 h40
      rw [if_pos r0]
      refine al_oV' (fun g43 h43 => al_oH' (fun g44 h44 => ?_))
      have e43 := bad_fail bd.2.1 g43 h43
      rw [e43] at h44
      obtain ⟨d1, d2, d3⟩ := dn g39 g44 o3 h44
      rw [if_neg (by rw [d2 27 (by omega)]; exact bd.2.1)]
      exact al_some (Out.bad (c26.1.pF.trans (o1.trans r.pF)) (d3.trans m39) d1 ((bd.stay c26).eq (fun _ => rfl) d2))
    · obtain ⟨⟨c', s', e', w', G2⟩, z2, z20, z26⟩ := S2
      have hz0 := hs.2.1
      have e22 := r.same.2.1
      have sg := G2.sign (v := 41) (by unfold isSg; decide) r40 h40
      have t41 : (41 : Int32).toInt = 41 := by decide
      rw [t41] at sg
      have G23 := G2.2.2.2.2.2.2.2.2.2.1
      have hx : Al (f_X1_expect 41 g25) (fun f => (c' = 41 ∧ f_X1_next g25 = some f) ∨ (¬ c' = 41 ∧ f_X1_fail g25 = some f)) := by
        unfold f_X1_expect
        exact al_ite (fun z => al_oV' (fun f hf => al_some (Or.inl ⟨by omega, hf⟩))) (fun z => al_oV' (fun f hf => al_some (Or.inr ⟨by omega, hf⟩)))
      have em1 : Em (nmF h) (6 + 5 * (5 - (k + 1))) r38 g g25 := (em.nm mm.nm).left r
      have em2 := em1.mono (show 6 + 5 * (5 - (k + 1)) ≤ 1 + 5 * (5 - k) by omega)
      rcases sg with ⟨q1, q2, q3⟩ | ⟨q1, q2⟩
      · rcases hx g26 h26 with ⟨x1, x2⟩ | ⟨x1, -⟩
        · rw [if_neg (by omega)]
          refine al_oH' (fun g48 h48 => ?_)
          obtain ⟨d1, d2, d3⟩ := dn g39 g48 z26 h48
          have G3 := G2.up26 ((g39 0 26) - 1)
          rw [← h48] at G3
          rw [if_pos (by rw [d2 27 (by omega)]; exact G2.2.2.2.2.2.2.1)]
          refine al_oV' (fun g51 h51 => al_some ?_)
          obtain ⟨⟨c3, s3, e3, w3, G4⟩, r2, m2, k26⟩ := G3.next (by omega) (by rw [d2 22 (by omega)]; exact q3) x2 h51
          have k51 : (g51 0 26).toInt = k := by rw [k26]; exact d1
          refine ⟨r2.pF.trans (o1.trans r.pF), m2.trans (d3.trans m39), k51, Or.inr ⟨i' + 1, ⟨⟨c3, s3, e3, w3, G4⟩, by rw [r2.same.2.1]; omega, by rw [r2.size]; exact z20, k51⟩, by omega, by rw [r2.same.2.1]; omega, em2.right r2⟩⟩
        · exact absurd q2 x1
      · rcases hx g26 h26 with ⟨x1, -⟩ | ⟨x1, x2⟩
        · exact absurd x1 q2
        · rw [if_pos q1]
          refine al_oV' (fun g43 h43 => al_oH' (fun g44 h44 => ?_))
          obtain ⟨b1', b2', b3', b4'⟩ := G2.fail x2 h43
          obtain ⟨d1, d2, d3⟩ := dn g43 g44 (by rw [b4']; exact z26) h44
          rw [if_neg (by rw [d2 27 (by omega)]; exact b1'.2.1)]
          exact al_some (Out.bad (b2'.pF.trans (o1.trans r.pF)) (d3.trans (b3'.trans m39)) d1 (b1'.eq (fun _ => rfl) d2))
  · omega
end PR

section PR
variable {B : Nat → Int} {N : Nat} {P : Nat → Nat} {n : Nat} {i k : Nat} {c : Int} {s e : Nat} {w : Int} {g h : dH}
/-- what the class does at its token -/
theorem one_cls (G : Good B N P n i c s e w g h) {rec : Int32 → Int32 → dH → Option dH} {n' : Nat} {v : Int32} : Al (f_X1_readOne rec (n' + 1) v g) (fun f => ((c = 302 ∨ c = 303) ∧ ∃ g4, f_X5_write (dtx (g 42 1)) (g 4 i) g = some g4 ∧ f_X1_next g4 = some f) ∨ (c = 45 ∧ oI (f_X1_opens v g) (fun r13 g14 => if r13.toInt = 0 then (some g14) else (oV (f_X1_readOne rec n' (v + 1) g14) (fun g17 => oV (f_X5_write (dtx (g17 42 1)) (-15) g17) (fun g18 => some g18)))) = some f) ∨ (c = 40 ∧ oI (f_X1_opens v g) (fun r21 g22 => if r21.toInt = 0 then (some g22) else (oV (rec 0 (v + 1) g22) (fun g25 => oV (f_X1_expect 41 g25) (fun g26 => some g26)))) = some f) ∨ (¬ c = 302 ∧ ¬ c = 303 ∧ ¬ c = 45 ∧ ¬ c = 40 ∧ f_X1_fail g = some f)) := by
  have g2 := G.2.2.2.2.2.2.2.2.1
  have g3 := G.2.2.2.2.2.2.2.2.2.1
  rw [f_X1_readOne]
  have ei : (g 42 2).toInt.toNat = i := by omega
  rw [ei]
  refine al_ite (fun z => al_ite (fun _ => al_oV' (fun g4 h4 => al_oV' (fun g5 h5 => al_some (Or.inl ⟨by omega, g4, h4, h5⟩)))) (fun _ => al_none)) (fun z1 => al_ite (fun z => al_ite (fun _ => al_oV' (fun g4 h4 => al_oV' (fun g5 h5 => al_some (Or.inl ⟨by omega, g4, h4, h5⟩)))) (fun _ => al_none)) (fun z2 => al_ite (fun z => ?_) (fun z3 => al_ite (fun z => ?_) (fun z4 => al_oV' (fun f hf => al_some (Or.inr (Or.inr (Or.inr ⟨by omega, by omega, by omega, by omega, hf⟩))))))))
  · intro f hf
    exact Or.inr (Or.inl ⟨by omega, hf⟩)
  · intro f hf
    exact Or.inr (Or.inr (Or.inl ⟨by omega, hf⟩))
/-- a number -/
theorem num_case (hs : St B N P n k i g h) (G : Good B N P n i c s e w g h) (h23 : (h 0 23).toInt = 2) {f : dH} (cl : (c = 302 ∨ c = 303) → ∃ g4, f_X5_write (dtx (g 42 1)) (g 4 i) g = some g4 ∧ f_X1_next g4 = some f) : Al (oV (f_X7_next h) (fun g11 => some ((h 0 25).toInt64.toInt32, g11))) (fun o => Out B N P n k 1 i g h f o) := by
  have m2 := G.2.2.2.2.2.2.2.2.2.2.2.2.2.1.2
  have hc : c = 302 ∧ (h 0 22).toInt = e ∧ (h 0 25).toInt = w := by omega
  obtain ⟨g4, w1, w2⟩ := cl (Or.inl hc.1)
  have hx : (g 4 i).toInt = w := G.2.2.2.2.2.2.2.2.2.2.2.2.1 (Or.inl hc.1)
  refine al_oV' (fun m hm => al_some (lit_ok hs G hc.2.1 hx (Or.inl ⟨hc.1, ?_⟩) w1 w2 hm))
  have e9 : (h 0 25).toInt64.toInt32 = h 0 25 := by
    apply Int32.toInt_inj.mp
    rw [Int64.toInt_toInt32, l_i2l]
    exact bm32 (Int32.le_toInt _) (Int32.toInt_lt _)
  rw [e9]
  exact hc.2.2
/-- a word -/
theorem word_case (hs : St B N P n k i g h) (G : Good B N P n i c s e w g h) (h23 : (h 0 23).toInt = 1) {f : dH} (cl : (c = 302 ∨ c = 303) → ∃ g4, f_X5_write (dtx (g 42 1)) (g 4 i) g = some g4 ∧ f_X1_next g4 = some f) (cf : ¬ c = 302 → ¬ c = 303 → ¬ c = 45 → ¬ c = 40 → f_X1_fail g = some f) : Al (oI (f_X7_name h) (fun r16 g17 => if (g17 0 27).toInt = 0 then (oV (f_X7_next g17) (fun g20 => some (r16, g20))) else (some (r16, g17)))) (fun o => Out B N P n k 1 i g h f o) := by
  have m2 := G.2.2.2.2.2.2.2.2.2.2.2.2.2.1.2
  have hc : c = 301 ∨ (303 ≤ c ∧ c ≤ 309) := by omega
  have h26 := hs.2.2.2
  refine al_oI (fun r g17 hr => ?_)
  rcases G.name (r, g17) hr with ⟨j, j1, j2, j3, j4, j5⟩ | ⟨j1, j2⟩
  · cases j5
    obtain ⟨g4, w1, w2⟩ := cl (Or.inr j2)
    have hx : (g 4 i).toInt = w := G.2.2.2.2.2.2.2.2.2.2.2.2.1 (Or.inr j2)
    refine al_ite (fun _ => al_oV' (fun m hm => al_some (lit_ok hs G j4 hx (Or.inr ⟨j, j1, j2, j3, rfl⟩) w1 w2 hm))) (fun z => absurd G.2.2.2.2.2.2.1 z)
  · have hb := G.2.2.2.2.1
    have n303 : ¬ c = 303 := by
      intro z
      obtain ⟨a1, a2⟩ := G.2.2.2.2.2.2.2.2.2.2.1.word' (by omega) (fun j hj => (hb j hj).2)
      rcases G.2.2.2.2.2.2.2.2.2.2.1.word a1 a2 with ⟨j, q1, -, q3, q4⟩ | ⟨j, q1, -, q3⟩ | ⟨-, q3⟩
      · exact j1 j q1 ⟨q3, q4⟩
      · omega
      · omega
    obtain ⟨b1, b2, b3, b4⟩ := G.fail (cf (by omega) n303 (by omega) (by omega)) j2
    simp only at b1 b3 b4
    rw [if_neg b1.2.1]
    have k17 : (g17 0 26).toInt = k := by rw [b4]; exact h26
    exact al_some (Out.bad b2.pF b3 k17 b1)
/-- neither -/
theorem fail_case (hs : St B N P n k i g h) (G : Good B N P n i c s e w g h) {f : dH} (cf : f_X1_fail g = some f) : Al (oV (f_X7_fail h) (fun g21 => some (0, g21))) (fun o => Out B N P n k 1 i g h f o) := by
  have h26 := hs.2.2.2
  refine al_oV' (fun m hm => al_some ?_)
  obtain ⟨b1, b2, b3, b4⟩ := G.fail cf hm
  have k17 : (m 0 26).toInt = k := by rw [b4]; exact h26
  exact Out.bad b2.pF b3 k17 b1
theorem Out.mono {D D' : Nat} {f : dH} {o : Int32 × dH} (q : Out B N P n k D i g h f o) (hD : D ≤ D') : Out B N P n k D' i g h f o := by
  obtain ⟨q1, q2, q3, q4⟩ := q
  refine ⟨q1, q2, q3, ?_⟩
  rcases q4 with q4 | ⟨i', a, b, c, d⟩
  · exact Or.inl q4
  · exact Or.inr ⟨i', a, b, c, d.mono hD⟩
/-- the atoms while more may be open -/
theorem one_gen {m : Nat} (hk : k < 5) {E A : dH → Option (Int32 × dH)} (hE : ∀ (v1 v2 : Int32) (g h : dH) (i : Nat) (f : dH) (o : Int32 × dH), v1.toInt = 0 → v2.toInt = k + 1 → St B N P n (k + 1) i g h → f_X1_read m v1 v2 g = some f → E h = some o → Out B N P n (k + 1) (6 + 5 * (5 - (k + 1))) i g h f o) (hA : ∀ (n' : Nat) (v : Int32) (g h : dH) (i : Nat) (f : dH) (o : Int32 × dH), v.toInt = k + 1 → St B N P n (k + 1) i g h → f_X1_readOne (f_X1_read m) n' v g = some f → A h = some o → Out B N P n (k + 1) (1 + 5 * (5 - (k + 1))) i g h f o) (n' : Nat) {v : Int32} (hv : v.toInt = k) (hs : St B N P n k i g h) : Al (f_X1_readOne (f_X1_read m) n' v g) (fun f => ∀ o, tAtom E A h = some o → Out B N P n k (1 + 5 * (5 - k)) i g h f o) := by
  cases n' with
  | zero => exact al_none
  | succ n' =>
    obtain ⟨c, s, e, w, G⟩ := hs.1
    intro f hf
    have cl := one_cls G f hf
    have b27 := G.2.2.2.2.2.2.1
    have m2 := G.2.2.2.2.2.2.2.2.2.2.2.2.2.1.2
    have lit : ∀ {t : Option (Int32 × dH)}, Al t (fun o => Out B N P n k 1 i g h f o) → Al t (fun o => Out B N P n k (1 + 5 * (5 - k)) i g h f o) := fun q o ho => (q o ho).mono (by omega)
    have cl1 : (c = 302 ∨ c = 303) → ∃ g4, f_X5_write (dtx (g 42 1)) (g 4 i) g = some g4 ∧ f_X1_next g4 = some f := fun z => by
      rcases cl with q | q | q | q
      · exact q.2
      · omega
      · omega
      · omega
    have clf : ¬ c = 302 → ¬ c = 303 → ¬ c = 45 → ¬ c = 40 → f_X1_fail g = some f := fun z1 z2 z3 z4 => by
      rcases cl with q | q | q | q
      · omega
      · exact absurd q.1 z3
      · exact absurd q.1 z4
      · exact q.2.2.2.2
    unfold tAtom
    refine al_oP (fun r1 hr1 => ?_)
    have s1 := G.sign (v := 45) (by unfold isSg; decide) r1 hr1
    rw [show (45 : Int32).toInt = 45 by decide] at s1
    refine al_ite (fun c1 => al_oP (fun r4 hr4 => ?_)) (fun c1 => ?_)
    · have s2 := G.sign (v := 40) (by unfold isSg; decide) r4 hr4
      rw [show (40 : Int32).toInt = 40 by decide] at s2
      refine al_ite (fun c4 => al_ite (fun _ => al_ite (fun c2 => lit (num_case hs G c2 cl1)) (fun c2 => al_ite (fun _ => al_ite (fun c3 => lit (word_case hs G c3 cl1 clf)) (fun c3 => lit (fail_case hs G (clf ?_ ?_ ?_ ?_)))) (fun z => absurd b27 z))) (fun z => absurd b27 z)) (fun c4 => ?_)
      · unfold isSg at m2; omega
      · unfold isSg at m2; omega
      · omega
      · omega
      · have hc : c = 40 := by omega
        subst hc
        rcases cl with q | q | q | q
        · omega
        · omega
        · exact one_paren hk hE hs G hv f q.2
        · omega
    · have hc : c = 45 := by omega
      subst hc
      rcases cl with q | q | q | q
      · omega
      · exact one_minus hk hA hs G hv f q.2
      · omega
      · omega
end PR

end
end

section
/-! operations of one level, one behind the other: both alike -/
noncomputable section
section PR
variable {B : Nat → Int} {N : Nat} {P : Nat → Nat} {n : Nat} {k : Nat}
/-- what the reference's loop of a level does; opc: the level's signs, x c: the class's step for one -/
def LoopM (B : Nat → Int) (N : Nat) (P : Nat → Nat) (n : Nat) (opc : Int → Prop) (x : Int → Int32) (S : dH → Option (Int32 × dH)) (L : Nat → Int32 → dH → Option (Int32 × dH)) : Prop :=
  (∀ acc h, L 0 acc h = none) ∧ (∀ n2 acc h o, ¬ (h 0 27).toInt = 0 → L (n2 + 1) acc h = some o → o = (acc, h)) ∧
  ∀ (n2 : Nat) (acc : Int32) (g h : dH) (o : Int32 × dH) (i : Nat) (c : Int) (s e : Nat) (w : Int), Good B N P n i c s e w g h → L (n2 + 1) acc h = some o → (opc c ∧ (h 0 22).toInt = e ∧ ∃ h1 r h2, f_X7_next h = some h1 ∧ S h1 = some (r, h2) ∧ L n2 (jnd (x c) acc r) h2 = some o) ∨ (¬ opc c ∧ o = (acc, h))
theorem loop_gen {m : Nat} {opc : Int → Prop} {x : Int → Int32} {S : dH → Option (Int32 × dH)} {L : Nat → Int32 → dH → Option (Int32 × dH)} (hL : LoopM B N P n opc x S L) {v1 v2 : Int32} {lv D : Nat} (hv1 : v1.toInt = lv) (hv1' : lv ≤ 4) (hv2 : v2.toInt = k) (hx : ∀ c, opc c → ¬ c = 300 ∧ -14 < (x c).toInt ∧ (x c).toInt < -6)
    (hlev : ∀ (t r : Int32), f_X1_levelOf t = some r → (r.toInt = lv ↔ opc t.toInt)) (hoper : ∀ (t r : Int32), opc t.toInt → f_X1_operationOf t = some r → r = x t.toInt)
    (hS : ∀ (u : Int32) (g h : dH) (i : Nat) (f : dH) (o : Int32 × dH), u.toInt = lv + 1 → St B N P n k i g h → f_X1_read m u v2 g = some f → S h = some o → Out B N P n k D i g h f o) {i0 : Nat} {g0 h0 : dH} : ∀ (n1 n2 : Nat) (v4 acc : Int32) (g h : dH) (i : Nat) (f : dH) (o : Int32 × dH), 0 ≤ v4.toInt → v4.toInt ≤ i → St B N P n k i g h → pF g g0 → mSame h h0 → i0 < i → rZ g + i0 ≤ rZ g0 + i → Em (nmF h0) (D + 1) acc g0 g → l_X1_read_76 (f_X1_read m) v1 v2 160 (fun f => some f) n1 v4 g = some f → L n2 acc h = some o → Out B N P n k (D + 1) i0 g0 h0 f o
  | 0, _, _, _, _, _, _, _, _, _, _, _, _, _, _, _, _, hf, _ => by cases hf
  | n1 + 1, 0, v4, acc, g, h, i, f, o, _, _, _, _, _, _, _, _, _, ho => by rw [hL.1] at ho; cases ho
  | n1 + 1, n2 + 1, v4, acc, g, h, i, f, o, p0, p1, hs, pf, ms, hi, hz, em, hf, ho => by
    obtain ⟨⟨c, s, e, w, G⟩, z1, z2, z3⟩ := id hs
    have g3 := G.2.2.2.2.2.2.2.2.2.1
    have hin := G.2.2.2.2.2.2.2.1
    have tn := G.1.2.1
    have hn := G.2.2.2.2.2.2.2.2.2.2.2.2.2.2
    have t160 : (160 : Int32).toInt = 160 := by decide
    rw [l_X1_read_76] at hf
    have exit : ¬ opc c → Out B N P n k (D + 1) i0 g0 h0 g o := by
      intro hc
      rcases hL.2.2 n2 acc g h o i c s e w G ho with ⟨q, -⟩ | ⟨-, q⟩
      · exact absurd q hc
      · subst q
        exact ⟨pf, ms, z3, Or.inr ⟨i, hs, hi, hz, em⟩⟩
    revert f
    refine al_ite (fun c1 => al_oP (fun r hr => al_ite (fun c2 => al_oP (fun r2 hr2 => al_oV' (fun g23 h23 => al_oV' (fun g24 h24 => al_oV' (fun g25 h25 => ?_))))) (fun c2 => ?_))) (fun c1 => ?_)
    · intro f hf
      have hop : opc c := by rw [← g3]; exact (hlev _ _ hr).mp (by omega)
      have ex : r2 = x c := by rw [← g3]; exact hoper _ _ (by rw [g3]; exact hop) hr2
      obtain ⟨x1, x2, x3⟩ := hx c hop
      rcases hL.2.2 n2 acc g h o i c s e w G ho with ⟨-, he, m1, r9, m2, q1, q2, q3⟩ | ⟨q, -⟩
      · obtain ⟨⟨c', s', e', w', G1⟩, r1, mm1, k26⟩ := G.next x1 he h23 q1
        have tv : (v1 + 1).toInt = (lv : Int) + 1 := i_add hv1 (by decide) (by omega) (by omega)
        have tv4 : (v4 + 1).toInt = v4.toInt + 1 := i_add rfl (by decide) (by omega) (by omega)
        have S1 : St B N P n k (i + 1) g23 m1 := ⟨⟨c', s', e', w', G1⟩, by rw [r1.same.2.1]; omega, by rw [r1.size]; exact z2, by rw [k26]; exact z3⟩
        obtain ⟨o1, o2, o3, o4⟩ := hS (v1 + 1) g23 m1 (i + 1) g24 (r9, m2) tv S1 h24 q2
        simp only at o2 o3 o4
        rcases o4 with bd | ⟨i', S2, j1, j2, em2⟩
        · obtain ⟨p, q⟩ := write_any g25 h25
          have b25 : Bad g25 m2 := bd.eq q (fun _ _ => rfl)
          have st := cbad_loop (rec := f_X1_read m) (v2 := v2) (v3 := 160) (show 0 ≤ v1.toInt by omega) n1 (v4 + 1) g25 b25.cb f hf
          cases n2 with
          | zero => rw [hL.1] at q3; cases q3
          | succ n2 =>
            have eo := hL.2.1 n2 _ m2 o bd.2.1 q3
            subst eo
            exact Out.bad (st.1.pF.trans (p.trans (o1.trans (r1.pF.trans pf)))) (o2.trans (mm1.trans ms)) o3 (b25.stay st)
        · obtain ⟨⟨c2', s2, e2, w2, G2⟩, y1, y2, y3⟩ := S2
          have in2 := G2.2.2.2.2.2.2.2.1
          have e23 := r1.same.2.1
          obtain ⟨wr, p, q, y0⟩ := Wr.of y2 (by omega) h25
          have em3 : Em (nmF h0) D r9 g g24 := (em2.nm ((mm1.trans ms).nm)).left r1
          have em4 := em.bin em3 (by rw [ex] at wr; exact wr) ⟨x2, x3⟩ (by omega)
          exact loop_gen hL hv1 hv1' hv2 hx hlev hoper hS n1 n2 (v4 + 1) (jnd (x c) acc r9) g25 m2 i' f o (by omega) (by omega) ⟨⟨c2', s2, e2, w2, G2.wr p q⟩, by rw [wr.1]; omega, y0, y3⟩ (p.trans (o1.trans (r1.pF.trans pf))) (o2.trans (mm1.trans ms)) (by omega) (by rw [wr.1]; omega) em4 hf q3
      · exact absurd hop q
    · refine al_some (exit ?_)
      intro hop
      exact c2 (by rw [hv1]; exact (hlev _ _ hr).mpr (by rw [g3]; exact hop))
    · refine al_some (exit ?_)
      intro hop
      have := hn (hx c hop).1
      omega
end PR
end
end

section
/-! a level: its first piece, its loop -/
noncomputable section
section PR
variable {B : Nat → Int} {N : Nat} {P : Nat → Nat} {n : Nat} {k : Nat}
theorem level_gen {m : Nat} {opc : Int → Prop} {x : Int → Int32} {S F : dH → Option (Int32 × dH)} {L : Nat → Int32 → dH → Option (Int32 × dH)} (hL : LoopM B N P n opc x S L) (hF : ∀ h, F h = oI (S h) (fun r g => L fuel0 r g)) {v1 v2 : Int32} {lv D : Nat} (hv1 : v1.toInt = lv) (hv1' : lv ≤ 4) (hlv2 : ¬ lv = 2) (hv2 : v2.toInt = k) (hx : ∀ c, opc c → ¬ c = 300 ∧ -14 < (x c).toInt ∧ (x c).toInt < -6)
    (hlev : ∀ (t r : Int32), f_X1_levelOf t = some r → (r.toInt = lv ↔ opc t.toInt)) (hoper : ∀ (t r : Int32), opc t.toInt → f_X1_operationOf t = some r → r = x t.toInt)
    (hS : ∀ (u : Int32) (g h : dH) (i : Nat) (f : dH) (o : Int32 × dH), u.toInt = lv + 1 → St B N P n k i g h → f_X1_read m u v2 g = some f → S h = some o → Out B N P n k D i g h f o) {g h : dH} {i : Nat} (hs : St B N P n k i g h) (f : dH) (o : Int32 × dH) (hf : f_X1_read (m + 1) v1 v2 g = some f) (ho : F h = some o) : Out B N P n k (D + 1) i g h f o := by
  have hf' : f_X1_readB (f_X1_read m) v1 v2 g = some f := hf
  clear hf
  rw [hF] at ho
  have tv : (v1 + 1).toInt = (lv : Int) + 1 := i_add hv1 (by decide) (by omega) (by omega)
  revert f
  unfold f_X1_readB
  refine al_ite (fun z => by omega) (fun _ => al_ite (fun z => by omega) (fun z2 => al_oV' (fun g1 h1 => ?_)))
  rw [if_neg z2]
  intro f hf
  revert o
  refine al_oI (fun r1 m1 hr => ?_)
  intro o ho
  obtain ⟨o1, o2, o3, o4⟩ := hS (v1 + 1) g h i g1 (r1, m1) tv hs h1 hr
  simp only at o2 o3 o4
  rcases o4 with bd | ⟨i', S1, j1, j2, em⟩
  · have st := cbad_loop (rec := f_X1_read m) (v2 := v2) (v3 := 160) (show 0 ≤ v1.toInt by omega) fuel0 0 g1 bd.cb f hf
    have eo := hL.2.1 999 _ m1 o bd.2.1 ho
    subst eo
    exact Out.bad (st.1.pF.trans o1) o2 o3 (bd.stay st)
  · exact loop_gen hL hv1 hv1' hv2 hx hlev hoper hS fuel0 fuel0 0 r1 g1 m1 i' f o (by rw [ti0]; omega) (by rw [ti0]; omega) S1 o1 o2 j1 (by omega) (em.mono (by omega)) hf ho
theorem jnd_mul (a b : Int32) : jnd (-13) a b = a * b := by
  unfold jnd
  rw [if_neg (by decide), if_neg (by decide), if_neg (by decide), if_neg (by decide), if_neg (by decide), if_neg (by decide)]
theorem jnd_add (a b : Int32) : jnd (-11) a b = a + b := by
  unfold jnd
  rw [if_neg (by decide), if_neg (by decide), if_neg (by decide), if_neg (by decide), if_pos (by decide)]
theorem jnd_sub (a b : Int32) : jnd (-12) a b = a - b := by
  unfold jnd
  rw [if_neg (by decide), if_neg (by decide), if_neg (by decide), if_neg (by decide), if_neg (by decide), if_pos (by decide)]
theorem jnd_or (a b : Int32) : jnd (-7) a b = if ¬ a.toInt = 0 ∨ ¬ b.toInt = 0 then 1 else 0 := if_pos (by decide)
theorem jnd_and (a b : Int32) : jnd (-8) a b = if ¬ a.toInt = 0 ∧ ¬ b.toInt = 0 then 1 else 0 := by
  unfold jnd
  rw [if_neg (by decide), if_pos (by decide)]
/-- times -/
theorem loopM_term {S : dH → Option (Int32 × dH)} {L : Nat → Int32 → dH → Option (Int32 × dH)} (h0 : ∀ acc h, L 0 acc h = none) (h1 : ∀ n2 acc h, L (n2 + 1) acc h = oP (f_X7_isSign 42 h) (fun r3 => if r3.toInt = 0 then some (acc, h) else (oV (f_X7_next h) (fun g6 => oI (S g6) (fun r7 g8 => L n2 (acc * r7) g8))))) : LoopM B N P n (fun c => c = 42) (fun _ => -13) S L := by
  refine ⟨h0, fun n2 acc h o hb ho => ?_, fun n2 acc g h o i c s e w G ho => ?_⟩
  · rw [h1] at ho
    revert o
    refine al_oP (fun r hr => ?_)
    rw [if_pos (bad_sign hb r hr)]
    exact al_some rfl
  · rw [h1] at ho
    revert o
    refine al_oP (fun r hr => ?_)
    have sg := G.sign (v := 42) (by unfold isSg; decide) r hr
    rw [show (42 : Int32).toInt = 42 by decide] at sg
    refine al_ite (fun z => al_some (Or.inr ⟨by omega, rfl⟩)) (fun z => al_oV' (fun m1 hm => al_oI (fun r7 m2 hs => fun o ho => Or.inl ⟨by omega, by omega, m1, r7, m2, hm, hs, ?_⟩)))
    rw [jnd_mul]
    exact ho
/-- and -/
theorem loopM_both {S : dH → Option (Int32 × dH)} {L : Nat → Int32 → dH → Option (Int32 × dH)} (h0 : ∀ acc h, L 0 acc h = none) (h1 : ∀ n2 acc h, L (n2 + 1) acc h = oP (f_X7_isWord 97 110 100 0 0 0 0 0 h) (fun r3 => if r3.toInt = 0 then some (acc, h) else (oV (f_X7_next h) (fun g6 => oI (S g6) (fun r7 g8 => if acc.toInt = 0 then (L n2 0 g8) else (if r7.toInt = 0 then (L n2 0 g8) else (L n2 1 g8))))))) : LoopM B N P n (fun c => c = 308) (fun _ => -8) S L := by
  refine ⟨h0, fun n2 acc h o hb ho => ?_, fun n2 acc g h o i c s e w G ho => ?_⟩
  · rw [h1] at ho
    revert o
    refine al_oP (fun r hr => ?_)
    rw [if_pos (bad_word hb r hr)]
    exact al_some rfl
  · rw [h1] at ho
    revert o
    refine al_oP (fun r hr => ?_)
    have sg := G.key (k := 4) (by omega) (by decide) r hr
    refine al_ite (fun z => al_some (Or.inr ⟨by omega, rfl⟩)) (fun z => al_oV' (fun m1 hm => al_oI (fun r7 m2 hs => fun o ho => Or.inl ⟨by omega, by omega, m1, r7, m2, hm, hs, ?_⟩)))
    rw [jnd_and]
    by_cases a : acc.toInt = 0
    · rw [if_pos a] at ho
      rw [if_neg (by omega)]
      exact ho
    · rw [if_neg a] at ho
      by_cases b : r7.toInt = 0
      · rw [if_pos b] at ho
        rw [if_neg (by omega)]
        exact ho
      · rw [if_neg b] at ho
        rw [if_pos ⟨a, b⟩]
        exact ho
/-- or -/
theorem loopM_either {S : dH → Option (Int32 × dH)} {L : Nat → Int32 → dH → Option (Int32 × dH)} (h0 : ∀ acc h, L 0 acc h = none) (h1 : ∀ n2 acc h, L (n2 + 1) acc h = oP (f_X7_isWord 111 114 0 0 0 0 0 0 h) (fun r3 => if r3.toInt = 0 then some (acc, h) else (oV (f_X7_next h) (fun g6 => oI (S g6) (fun r7 g8 => if acc.toInt = 0 then (if r7.toInt = 0 then (L n2 0 g8) else (L n2 1 g8)) else (L n2 1 g8)))))) : LoopM B N P n (fun c => c = 307) (fun _ => -7) S L := by
  refine ⟨h0, fun n2 acc h o hb ho => ?_, fun n2 acc g h o i c s e w G ho => ?_⟩
  · rw [h1] at ho
    revert o
    refine al_oP (fun r hr => ?_)
    rw [if_pos (bad_word hb r hr)]
    exact al_some rfl
  · rw [h1] at ho
    revert o
    refine al_oP (fun r hr => ?_)
    have sg := G.key (k := 3) (by omega) (by decide) r hr
    refine al_ite (fun z => al_some (Or.inr ⟨by omega, rfl⟩)) (fun z => al_oV' (fun m1 hm => al_oI (fun r7 m2 hs => fun o ho => Or.inl ⟨by omega, by omega, m1, r7, m2, hm, hs, ?_⟩)))
    rw [jnd_or]
    by_cases a : acc.toInt = 0
    · rw [if_pos a] at ho
      by_cases b : r7.toInt = 0
      · rw [if_pos b] at ho
        rw [if_neg (by omega)]
        exact ho
      · rw [if_neg b] at ho
        rw [if_pos (Or.inr b)]
        exact ho
    · rw [if_neg a] at ho
      rw [if_pos (Or.inl a)]
      exact ho
end PR
end
end

section
/-! the loop of sums -/
noncomputable section
section PR
variable {B : Nat → Int} {N : Nat} {P : Nat → Nat} {n : Nat} {k : Nat}
theorem Good.worth {i : Nat} {c : Int} {s e : Nat} {w : Int} {g h : dH} (G : Good B N P n i c s e w g h) (hc : isSg c) : (dlcmp (h 0 25).toInt64 43).toInt = 0 ↔ c = 43 := by
  obtain ⟨t, o, hB, hN, hb, b4, b27, hi, g2, g3, tk, gs, gw, mt, hn⟩ := G
  have hd := dlcmp_ok (h 0 25).toInt64 43
  rw [l_i2l, show (43 : Int64).toInt = 43 by decide] at hd
  have m2 := mt.2
  unfold isSg at hc m2
  omega
theorem loopM_added {S : dH → Option (Int32 × dH)} {L : Nat → Int32 → dH → Option (Int32 × dH)} (h0 : ∀ acc h, L 0 acc h = none) (h1 : ∀ n2 acc h, L (n2 + 1) acc h = oP (f_X7_isSign 43 h) (fun r3 => if r3.toInt = 0 then (oP (f_X7_isSign 45 h) (fun r6 => if r6.toInt = 0 then some (acc, h) else (if (dlcmp (h 0 25).toInt64 43).toInt = 0 then (oV (f_X7_next h) (fun g11 => oI (S g11) (fun r12 g13 => L n2 (acc + r12) g13))) else (oV (f_X7_next h) (fun g14 => oI (S g14) (fun r15 g16 => L n2 (acc - r15) g16)))))) else (if (dlcmp (h 0 25).toInt64 43).toInt = 0 then (oV (f_X7_next h) (fun g19 => oI (S g19) (fun r20 g21 => L n2 (acc + r20) g21))) else (oV (f_X7_next h) (fun g22 => oI (S g22) (fun r23 g24 => L n2 (acc - r23) g24)))))) : LoopM B N P n (fun c => c = 43 ∨ c = 45) (fun c => if c = 43 then -11 else -12) S L := by
  refine ⟨h0, fun n2 acc h o hb ho => ?_, fun n2 acc g h o i c s e w G ho => ?_⟩
  · rw [h1] at ho
    revert o
    refine al_oP (fun r hr => ?_)
    rw [if_pos (bad_sign hb r hr)]
    refine al_oP (fun r hr => ?_)
    rw [if_pos (bad_sign hb r hr)]
    exact al_some rfl
  · rw [h1] at ho
    revert o
    refine al_oP (fun r hr => ?_)
    have sg := G.sign (v := 43) (by unfold isSg; decide) r hr
    rw [show (43 : Int32).toInt = 43 by decide] at sg
    have wo := G.worth
    unfold isSg at wo
    refine al_ite (fun z => al_oP (fun r6 hr6 => ?_)) (fun z => al_ite (fun d => al_oV' (fun m1 hm => al_oI (fun r7 m2 hs => fun o ho => Or.inl ⟨Or.inl (by omega), by omega, m1, r7, m2, hm, hs, ?_⟩))) (fun d => absurd ((wo (by omega)).mpr (by omega)) d))
    · have sg2 := G.sign (v := 45) (by unfold isSg; decide) r6 hr6
      rw [show (45 : Int32).toInt = 45 by decide] at sg2
      refine al_ite (fun z6 => al_some (Or.inr ⟨by omega, rfl⟩)) (fun z6 => al_ite (fun d => absurd ((wo (by omega)).mp d) (by omega)) (fun _ => al_oV' (fun m1 hm => al_oI (fun r7 m2 hs => fun o ho => Or.inl ⟨Or.inr (by omega), by omega, m1, r7, m2, hm, hs, ?_⟩))))
      show L n2 (jnd (if c = 43 then -11 else -12) acc r7) m2 = some o
      rw [if_neg (by omega), jnd_sub]
      exact ho
    · show L n2 (jnd (if c = 43 then -11 else -12) acc r7) m2 = some o
      rw [if_pos (by omega), jnd_add]
      exact ho
end PR
end
end

section
/-! the levels but the third, by name -/
noncomputable section
theorem lv4 (t r : Int32) (h : f_X1_levelOf t = some r) : r.toInt = ((4 : Nat) : Int) ↔ t.toInt = 42 := by
  have q := level_ok r h
  omega
theorem lv3 (t r : Int32) (h : f_X1_levelOf t = some r) : r.toInt = ((3 : Nat) : Int) ↔ (t.toInt = 43 ∨ t.toInt = 45) := by
  have q := level_ok r h
  omega
theorem lv1 (t r : Int32) (h : f_X1_levelOf t = some r) : r.toInt = ((1 : Nat) : Int) ↔ t.toInt = 308 := by
  have q := level_ok r h
  omega
theorem lv0 (t r : Int32) (h : f_X1_levelOf t = some r) : r.toInt = ((0 : Nat) : Int) ↔ t.toInt = 307 := by
  have q := level_ok r h
  omega
theorem op4 (t r : Int32) (c : t.toInt = 42) (h : f_X1_operationOf t = some r) : r = -13 := by
  rcases oper_ok r h with ⟨a, b⟩ | ⟨a, b⟩ | ⟨a, b⟩ | ⟨a, b⟩ | ⟨a, b⟩ | ⟨a, b⟩ | ⟨-, -, -, -, -, -, b⟩
  · omega
  · omega
  · omega
  · omega
  · omega
  · omega
  · exact b
theorem op3 (t r : Int32) (c : t.toInt = 43 ∨ t.toInt = 45) (h : f_X1_operationOf t = some r) : r = if t.toInt = 43 then -11 else -12 := by
  rcases oper_ok r h with ⟨a, b⟩ | ⟨a, b⟩ | ⟨a, b⟩ | ⟨a, b⟩ | ⟨a, b⟩ | ⟨a, b⟩ | ⟨a1, a2, -, -, -, -, b⟩
  · rw [if_pos a]; exact b
  · rw [if_neg (by omega)]; exact b
  · omega
  · omega
  · omega
  · omega
  · omega
theorem op1 (t r : Int32) (c : t.toInt = 308) (h : f_X1_operationOf t = some r) : r = -8 := by
  rcases oper_ok r h with ⟨a, b⟩ | ⟨a, b⟩ | ⟨a, b⟩ | ⟨a, b⟩ | ⟨a, b⟩ | ⟨a, b⟩ | ⟨-, -, -, -, -, a, b⟩
  · omega
  · omega
  · omega
  · omega
  · omega
  · exact b
  · omega
theorem op0 (t r : Int32) (c : t.toInt = 307) (h : f_X1_operationOf t = some r) : r = -7 := by
  rcases oper_ok r h with ⟨a, b⟩ | ⟨a, b⟩ | ⟨a, b⟩ | ⟨a, b⟩ | ⟨a, b⟩ | ⟨a, b⟩ | ⟨-, -, -, -, a, -, b⟩
  · omega
  · omega
  · omega
  · omega
  · exact b
  · omega
  · omega
section PR
variable {B : Nat → Int} {N : Nat} {P : Nat → Nat} {n : Nat} {k : Nat}
variable (B N P n k) in
/-- the class's read at a level (depth k, fuel m) against a function of the reference -/
def Rd (m lv D : Nat) (S : dH → Option (Int32 × dH)) : Prop := ∀ (u v : Int32) (g h : dH) (i : Nat) (f : dH) (o : Int32 × dH), u.toInt = lv → v.toInt = k → St B N P n k i g h → f_X1_read m u v g = some f → S h = some o → Out B N P n k D i g h f o
theorem Rd.zero {lv D : Nat} {S : dH → Option (Int32 × dH)} : Rd B N P n k 0 lv D S := by
  intro u v g h i f o _ _ _ hf _
  cases hf
theorem Rd.one {m D : Nat} {A : dH → Option (Int32 × dH)} (hA : ∀ (n' : Nat) (v : Int32) (g h : dH) (i : Nat) (f : dH) (o : Int32 × dH), v.toInt = k → St B N P n k i g h → f_X1_readOne (f_X1_read m) n' v g = some f → A h = some o → Out B N P n k D i g h f o) : Rd B N P n k (m + 1) 5 D A := by
  intro u v g h i f o hu hv hs hf ho
  have hf' : f_X1_readB (f_X1_read m) u v g = some f := hf
  clear hf
  unfold f_X1_readB at hf'
  rw [if_pos (by omega)] at hf'
  revert f
  refine al_oV' (fun g1 h1 => ?_)
  intro f hf
  cases hf
  exact hA 10 v g h i g1 o hv hs h1 ho
theorem Rd.term {m D : Nat} {S F : dH → Option (Int32 × dH)} {L : Nat → Int32 → dH → Option (Int32 × dH)} (hS : Rd B N P n k m 5 D S) (hL : LoopM B N P n (fun c => c = 42) (fun _ => -13) S L) (hF : ∀ h, F h = oI (S h) (fun r g => L fuel0 r g)) : Rd B N P n k (m + 1) 4 (D + 1) F := by
  intro u v g h i f o hu hv hs hf ho
  exact level_gen hL hF (lv := 4) hu (by omega) (by omega) hv (fun c _ => ⟨by omega, by decide, by decide⟩) lv4 op4 (fun u g h i f o hu => hS u v g h i f o (by omega) hv) hs f o hf ho
theorem Rd.added {m D : Nat} {S F : dH → Option (Int32 × dH)} {L : Nat → Int32 → dH → Option (Int32 × dH)} (hS : Rd B N P n k m 4 D S) (hL : LoopM B N P n (fun c => c = 43 ∨ c = 45) (fun c => if c = 43 then -11 else -12) S L) (hF : ∀ h, F h = oI (S h) (fun r g => L fuel0 r g)) : Rd B N P n k (m + 1) 3 (D + 1) F := by
  intro u v g h i f o hu hv hs hf ho
  refine level_gen hL hF (lv := 3) hu (by omega) (by omega) hv (fun c q => ?_) lv3 op3 (fun u g h i f o hu => hS u v g h i f o (by omega) hv) hs f o hf ho
  refine ⟨by omega, ?_⟩
  by_cases z : c = 43
  · rw [if_pos z]; decide
  · rw [if_neg z]; decide
theorem Rd.both {m D : Nat} {S F : dH → Option (Int32 × dH)} {L : Nat → Int32 → dH → Option (Int32 × dH)} (hS : Rd B N P n k m 2 D S) (hL : LoopM B N P n (fun c => c = 308) (fun _ => -8) S L) (hF : ∀ h, F h = oI (S h) (fun r g => L fuel0 r g)) : Rd B N P n k (m + 1) 1 (D + 1) F := by
  intro u v g h i f o hu hv hs hf ho
  exact level_gen hL hF (lv := 1) hu (by omega) (by omega) hv (fun c _ => ⟨by omega, by decide, by decide⟩) lv1 op1 (fun u g h i f o hu => hS u v g h i f o (by omega) hv) hs f o hf ho
theorem Rd.either {m D : Nat} {S F : dH → Option (Int32 × dH)} {L : Nat → Int32 → dH → Option (Int32 × dH)} (hS : Rd B N P n k m 1 D S) (hL : LoopM B N P n (fun c => c = 307) (fun _ => -7) S L) (hF : ∀ h, F h = oI (S h) (fun r g => L fuel0 r g)) : Rd B N P n k (m + 1) 0 (D + 1) F := by
  intro u v g h i f o hu hv hs hf ho
  exact level_gen hL hF (lv := 0) hu (by omega) (by omega) hv (fun c _ => ⟨by omega, by decide, by decide⟩) lv0 op0 (fun u g h i f o hu => hS u v g h i f o (by omega) hv) hs f o hf ho
end PR
end
end

section
/-! the loops of the reference, depth by depth -/
noncomputable section
section PR
variable {B : Nat → Int} {N : Nat} {P : Nat → Nat} {n : Nat}
theorem termL0 : LoopM B N P n (fun c => c = 42) (fun _ => -13) f_X7_atom0 (l_X7_term0_5 (fun v g => some (v, g))) := loopM_term (fun _ _ => rfl) (fun _ _ _ => rfl)
theorem termF0 (h : dH) : f_X7_term0 h = oI (f_X7_atom0 h) (fun r g => l_X7_term0_5 (fun v g => some (v, g)) fuel0 r g) := rfl
theorem addedL0 : LoopM B N P n (fun c => c = 43 ∨ c = 45) (fun c => if c = 43 then -11 else -12) f_X7_term0 (l_X7_added0_5 (fun v g => some (v, g))) := loopM_added (fun _ _ => rfl) (fun _ _ _ => rfl)
theorem addedF0 (h : dH) : f_X7_added0 h = oI (f_X7_term0 h) (fun r g => l_X7_added0_5 (fun v g => some (v, g)) fuel0 r g) := rfl
theorem bothL0 : LoopM B N P n (fun c => c = 308) (fun _ => -8) f_X7_not0 (l_X7_both0_5 (fun v g => some (v, g))) := loopM_both (fun _ _ => rfl) (fun _ _ _ => rfl)
theorem bothF0 (h : dH) : f_X7_both0 h = oI (f_X7_not0 h) (fun r g => l_X7_both0_5 (fun v g => some (v, g)) fuel0 r g) := rfl
theorem eitherL0 : LoopM B N P n (fun c => c = 307) (fun _ => -7) f_X7_both0 (l_X7_either0_5 (fun v g => some (v, g))) := loopM_either (fun _ _ => rfl) (fun _ _ _ => rfl)
theorem eitherF0 (h : dH) : f_X7_either0 h = oI (f_X7_both0 h) (fun r g => l_X7_either0_5 (fun v g => some (v, g)) fuel0 r g) := rfl
theorem termL1 : LoopM B N P n (fun c => c = 42) (fun _ => -13) f_X7_atom1 (l_X7_term1_5 (fun v g => some (v, g))) := loopM_term (fun _ _ => rfl) (fun _ _ _ => rfl)
theorem termF1 (h : dH) : f_X7_term1 h = oI (f_X7_atom1 h) (fun r g => l_X7_term1_5 (fun v g => some (v, g)) fuel0 r g) := rfl
theorem addedL1 : LoopM B N P n (fun c => c = 43 ∨ c = 45) (fun c => if c = 43 then -11 else -12) f_X7_term1 (l_X7_added1_5 (fun v g => some (v, g))) := loopM_added (fun _ _ => rfl) (fun _ _ _ => rfl)
theorem addedF1 (h : dH) : f_X7_added1 h = oI (f_X7_term1 h) (fun r g => l_X7_added1_5 (fun v g => some (v, g)) fuel0 r g) := rfl
theorem bothL1 : LoopM B N P n (fun c => c = 308) (fun _ => -8) f_X7_not1 (l_X7_both1_5 (fun v g => some (v, g))) := loopM_both (fun _ _ => rfl) (fun _ _ _ => rfl)
theorem bothF1 (h : dH) : f_X7_both1 h = oI (f_X7_not1 h) (fun r g => l_X7_both1_5 (fun v g => some (v, g)) fuel0 r g) := rfl
theorem eitherL1 : LoopM B N P n (fun c => c = 307) (fun _ => -7) f_X7_both1 (l_X7_either1_5 (fun v g => some (v, g))) := loopM_either (fun _ _ => rfl) (fun _ _ _ => rfl)
theorem eitherF1 (h : dH) : f_X7_either1 h = oI (f_X7_both1 h) (fun r g => l_X7_either1_5 (fun v g => some (v, g)) fuel0 r g) := rfl
theorem termL2 : LoopM B N P n (fun c => c = 42) (fun _ => -13) f_X7_atom2 (l_X7_term2_5 (fun v g => some (v, g))) := loopM_term (fun _ _ => rfl) (fun _ _ _ => rfl)
theorem termF2 (h : dH) : f_X7_term2 h = oI (f_X7_atom2 h) (fun r g => l_X7_term2_5 (fun v g => some (v, g)) fuel0 r g) := rfl
theorem addedL2 : LoopM B N P n (fun c => c = 43 ∨ c = 45) (fun c => if c = 43 then -11 else -12) f_X7_term2 (l_X7_added2_5 (fun v g => some (v, g))) := loopM_added (fun _ _ => rfl) (fun _ _ _ => rfl)
theorem addedF2 (h : dH) : f_X7_added2 h = oI (f_X7_term2 h) (fun r g => l_X7_added2_5 (fun v g => some (v, g)) fuel0 r g) := rfl
theorem bothL2 : LoopM B N P n (fun c => c = 308) (fun _ => -8) f_X7_not2 (l_X7_both2_5 (fun v g => some (v, g))) := loopM_both (fun _ _ => rfl) (fun _ _ _ => rfl)
theorem bothF2 (h : dH) : f_X7_both2 h = oI (f_X7_not2 h) (fun r g => l_X7_both2_5 (fun v g => some (v, g)) fuel0 r g) := rfl
theorem eitherL2 : LoopM B N P n (fun c => c = 307) (fun _ => -7) f_X7_both2 (l_X7_either2_5 (fun v g => some (v, g))) := loopM_either (fun _ _ => rfl) (fun _ _ _ => rfl)
theorem eitherF2 (h : dH) : f_X7_either2 h = oI (f_X7_both2 h) (fun r g => l_X7_either2_5 (fun v g => some (v, g)) fuel0 r g) := rfl
theorem termL3 : LoopM B N P n (fun c => c = 42) (fun _ => -13) f_X7_atom3 (l_X7_term3_5 (fun v g => some (v, g))) := loopM_term (fun _ _ => rfl) (fun _ _ _ => rfl)
theorem termF3 (h : dH) : f_X7_term3 h = oI (f_X7_atom3 h) (fun r g => l_X7_term3_5 (fun v g => some (v, g)) fuel0 r g) := rfl
theorem addedL3 : LoopM B N P n (fun c => c = 43 ∨ c = 45) (fun c => if c = 43 then -11 else -12) f_X7_term3 (l_X7_added3_5 (fun v g => some (v, g))) := loopM_added (fun _ _ => rfl) (fun _ _ _ => rfl)
theorem addedF3 (h : dH) : f_X7_added3 h = oI (f_X7_term3 h) (fun r g => l_X7_added3_5 (fun v g => some (v, g)) fuel0 r g) := rfl
theorem bothL3 : LoopM B N P n (fun c => c = 308) (fun _ => -8) f_X7_not3 (l_X7_both3_5 (fun v g => some (v, g))) := loopM_both (fun _ _ => rfl) (fun _ _ _ => rfl)
theorem bothF3 (h : dH) : f_X7_both3 h = oI (f_X7_not3 h) (fun r g => l_X7_both3_5 (fun v g => some (v, g)) fuel0 r g) := rfl
theorem eitherL3 : LoopM B N P n (fun c => c = 307) (fun _ => -7) f_X7_both3 (l_X7_either3_5 (fun v g => some (v, g))) := loopM_either (fun _ _ => rfl) (fun _ _ _ => rfl)
theorem eitherF3 (h : dH) : f_X7_either3 h = oI (f_X7_both3 h) (fun r g => l_X7_either3_5 (fun v g => some (v, g)) fuel0 r g) := rfl
theorem termL4 : LoopM B N P n (fun c => c = 42) (fun _ => -13) f_X7_atom4 (l_X7_term4_5 (fun v g => some (v, g))) := loopM_term (fun _ _ => rfl) (fun _ _ _ => rfl)
theorem termF4 (h : dH) : f_X7_term4 h = oI (f_X7_atom4 h) (fun r g => l_X7_term4_5 (fun v g => some (v, g)) fuel0 r g) := rfl
theorem addedL4 : LoopM B N P n (fun c => c = 43 ∨ c = 45) (fun c => if c = 43 then -11 else -12) f_X7_term4 (l_X7_added4_5 (fun v g => some (v, g))) := loopM_added (fun _ _ => rfl) (fun _ _ _ => rfl)
theorem addedF4 (h : dH) : f_X7_added4 h = oI (f_X7_term4 h) (fun r g => l_X7_added4_5 (fun v g => some (v, g)) fuel0 r g) := rfl
theorem bothL4 : LoopM B N P n (fun c => c = 308) (fun _ => -8) f_X7_not4 (l_X7_both4_5 (fun v g => some (v, g))) := loopM_both (fun _ _ => rfl) (fun _ _ _ => rfl)
theorem bothF4 (h : dH) : f_X7_both4 h = oI (f_X7_not4 h) (fun r g => l_X7_both4_5 (fun v g => some (v, g)) fuel0 r g) := rfl
theorem eitherL4 : LoopM B N P n (fun c => c = 307) (fun _ => -7) f_X7_both4 (l_X7_either4_5 (fun v g => some (v, g))) := loopM_either (fun _ _ => rfl) (fun _ _ _ => rfl)
theorem eitherF4 (h : dH) : f_X7_either4 h = oI (f_X7_both4 h) (fun r g => l_X7_either4_5 (fun v g => some (v, g)) fuel0 r g) := rfl
theorem termL5 : LoopM B N P n (fun c => c = 42) (fun _ => -13) f_X7_atom5 (l_X7_term5_5 (fun v g => some (v, g))) := loopM_term (fun _ _ => rfl) (fun _ _ _ => rfl)
theorem termF5 (h : dH) : f_X7_term5 h = oI (f_X7_atom5 h) (fun r g => l_X7_term5_5 (fun v g => some (v, g)) fuel0 r g) := rfl
theorem addedL5 : LoopM B N P n (fun c => c = 43 ∨ c = 45) (fun c => if c = 43 then -11 else -12) f_X7_term5 (l_X7_added5_5 (fun v g => some (v, g))) := loopM_added (fun _ _ => rfl) (fun _ _ _ => rfl)
theorem addedF5 (h : dH) : f_X7_added5 h = oI (f_X7_term5 h) (fun r g => l_X7_added5_5 (fun v g => some (v, g)) fuel0 r g) := rfl
theorem bothL5 : LoopM B N P n (fun c => c = 308) (fun _ => -8) f_X7_not5 (l_X7_both5_5 (fun v g => some (v, g))) := loopM_both (fun _ _ => rfl) (fun _ _ _ => rfl)
theorem bothF5 (h : dH) : f_X7_both5 h = oI (f_X7_not5 h) (fun r g => l_X7_both5_5 (fun v g => some (v, g)) fuel0 r g) := rfl
theorem eitherL5 : LoopM B N P n (fun c => c = 307) (fun _ => -7) f_X7_both5 (l_X7_either5_5 (fun v g => some (v, g))) := loopM_either (fun _ _ => rfl) (fun _ _ _ => rfl)
theorem eitherF5 (h : dH) : f_X7_either5 h = oI (f_X7_both5 h) (fun r g => l_X7_either5_5 (fun v g => some (v, g)) fuel0 r g) := rfl
end PR
end
end

section
/-! the third level: not, a single compare -/
noncomputable section
theorem inc1a {v : Int32} (h : v.toInt < 1000) : (v + 1).toInt = v.toInt + 1 := by
  have := lt32 v
  exact i_add rfl ti1 (by omega) (by omega)
def tCmp (A : dH → Option (Int32 × dH)) (acc : Int32) (h : dH) : Option (Int32 × dH) := oP (f_X7_isSign 60 h) (fun r6 => if r6.toInt = 0 then (oP (f_X7_isSign 61 h) (fun r9 => if r9.toInt = 0 then (some (acc, h)) else (if (dlcmp (h 0 25).toInt64 60).toInt = 0 then (oV (f_X7_next h) (fun g14 => oI (A g14) (fun r15 g16 => if acc.toInt < r15.toInt then (some (1, g16)) else (some (0, g16))))) else (oV (f_X7_next h) (fun g19 => oI (A g19) (fun r20 g21 => if acc.toInt = r20.toInt then (some (1, g21)) else (some (0, g21)))))))) else (if (dlcmp (h 0 25).toInt64 60).toInt = 0 then (oV (f_X7_next h) (fun g26 => oI (A g26) (fun r27 g28 => if acc.toInt < r27.toInt then (some (1, g28)) else (some (0, g28))))) else (oV (f_X7_next h) (fun g31 => oI (A g31) (fun r32 g33 => if acc.toInt = r32.toInt then (some (1, g33)) else (some (0, g33)))))))
def tNot (A S : dH → Option (Int32 × dH)) (h : dH) : Option (Int32 × dH) := oP (f_X7_isWord 110 111 116 0 0 0 0 0 h) (fun r1 => if r1.toInt = 0 then (oI (A h) (fun r4 g5 => tCmp A r4 g5)) else (oI (f_X7_opens h) (fun r36 g37 => if r36.toInt = 0 then (some (0, g37)) else (oI (S g37) (fun r40 g41 => oH (dU g41 0 26 ((g41 0 26) - 1)) (fun g42 => if r40.toInt = 0 then (some (1, g42)) else (some (0, g42))))))))
def tNot5 (A : dH → Option (Int32 × dH)) (h : dH) : Option (Int32 × dH) := oP (f_X7_isWord 110 111 116 0 0 0 0 0 h) (fun r1 => if r1.toInt = 0 then (oI (A h) (fun r4 g5 => tCmp A r4 g5)) else (oI (f_X7_opens h) (fun _ g37 => some (0, g37))))
theorem not0_t (h : dH) : f_X7_not0 h = tNot f_X7_added0 f_X7_not1 h := rfl
theorem not1_t (h : dH) : f_X7_not1 h = tNot f_X7_added1 f_X7_not2 h := rfl
theorem not2_t (h : dH) : f_X7_not2 h = tNot f_X7_added2 f_X7_not3 h := rfl
theorem not3_t (h : dH) : f_X7_not3 h = tNot f_X7_added3 f_X7_not4 h := rfl
theorem not4_t (h : dH) : f_X7_not4 h = tNot f_X7_added4 f_X7_not5 h := rfl
theorem not5_t (h : dH) : f_X7_not5 h = tNot5 f_X7_added5 h := rfl
theorem jnd_less (a b : Int32) : jnd (-9) a b = if a.toInt < b.toInt then 1 else 0 := by
  unfold jnd
  rw [if_neg (by decide), if_neg (by decide), if_pos (by decide)]
theorem jnd_same (a b : Int32) : jnd (-10) a b = if a.toInt = b.toInt then 1 else 0 := by
  unfold jnd
  rw [if_neg (by decide), if_neg (by decide), if_neg (by decide), if_pos (by decide)]
def cmX (c : Int) : Int32 := if c = 60 then -9 else -10
section PR
variable {B : Nat → Int} {N : Nat} {P : Nat → Nat} {n : Nat} {i k : Nat} {c : Int} {s e : Nat} {w : Int} {g h : dH}
theorem Good.worth60 (G : Good B N P n i c s e w g h) (hc : isSg c) : (dlcmp (h 0 25).toInt64 60).toInt = 0 ↔ c = 60 := by
  obtain ⟨t, o, hB, hN, hb, b4, b27, hi, g2, g3, tk, gs, gw, mt, hn⟩ := G
  have hd := dlcmp_ok (h 0 25).toInt64 60
  rw [l_i2l, show (60 : Int64).toInt = 60 by decide] at hd
  have m2 := mt.2
  unfold isSg at hc m2
  omega
/-- the reference's compare -/
theorem cmp_bad {A : dH → Option (Int32 × dH)} {acc : Int32} (hb : ¬ (h 0 27).toInt = 0) : Al (tCmp A acc h) (fun o => o = (acc, h)) := by
  unfold tCmp
  refine al_oP (fun r hr => ?_)
  rw [if_pos (bad_sign hb r hr)]
  refine al_oP (fun r hr => ?_)
  rw [if_pos (bad_sign hb r hr)]
  exact al_some rfl
theorem cmp_two {A : dH → Option (Int32 × dH)} {acc : Int32} (G : Good B N P n i c s e w g h) (hc : c = 60 ∨ c = 61) (he : (h 0 22).toInt = e) : Al (if (dlcmp (h 0 25).toInt64 60).toInt = 0 then (oV (f_X7_next h) (fun g14 => oI (A g14) (fun r15 g16 => if acc.toInt < r15.toInt then (some ((1 : Int32), g16)) else (some (0, g16))))) else (oV (f_X7_next h) (fun g19 => oI (A g19) (fun r20 g21 => if acc.toInt = r20.toInt then (some ((1 : Int32), g21)) else (some (0, g21)))))) (fun o => ((c = 60 ∨ c = 61) ∧ (h 0 22).toInt = e ∧ ∃ h1 r h2, f_X7_next h = some h1 ∧ A h1 = some (r, h2) ∧ o = (jnd (cmX c) acc r, h2)) ∨ (¬ (c = 60 ∨ c = 61) ∧ o = (acc, h))) := by
  have wo := G.worth60 (by unfold isSg; omega)
  refine al_ite (fun d => al_oV' (fun h1 q1 => al_oI (fun r h2 q2 => ?_))) (fun d => al_oV' (fun h1 q1 => al_oI (fun r h2 q2 => ?_)))
  · have c60 : c = 60 := wo.mp d
    have ej : jnd (cmX c) acc r = if acc.toInt < r.toInt then 1 else 0 := by
      unfold cmX
      rw [if_pos c60, jnd_less]
    exact al_ite (fun z => al_some (Or.inl ⟨hc, he, h1, r, h2, q1, q2, by rw [ej, if_pos z]⟩)) (fun z => al_some (Or.inl ⟨hc, he, h1, r, h2, q1, q2, by rw [ej, if_neg z]⟩))
  · have c60 : ¬ c = 60 := fun z => d (wo.mpr z)
    have ej : jnd (cmX c) acc r = if acc.toInt = r.toInt then 1 else 0 := by
      unfold cmX
      rw [if_neg c60, jnd_same]
    exact al_ite (fun z => al_some (Or.inl ⟨hc, he, h1, r, h2, q1, q2, by rw [ej, if_pos z]⟩)) (fun z => al_some (Or.inl ⟨hc, he, h1, r, h2, q1, q2, by rw [ej, if_neg z]⟩))
theorem cmp_ok {A : dH → Option (Int32 × dH)} {acc : Int32} (G : Good B N P n i c s e w g h) : Al (tCmp A acc h) (fun o => ((c = 60 ∨ c = 61) ∧ (h 0 22).toInt = e ∧ ∃ h1 r h2, f_X7_next h = some h1 ∧ A h1 = some (r, h2) ∧ o = (jnd (cmX c) acc r, h2)) ∨ (¬ (c = 60 ∨ c = 61) ∧ o = (acc, h))) := by
  unfold tCmp
  refine al_oP (fun r hr => ?_)
  have sg := G.sign (v := 60) (by unfold isSg; decide) r hr
  rw [show (60 : Int32).toInt = 60 by decide] at sg
  refine al_ite (fun z => al_oP (fun r9 hr9 => ?_)) (fun z => cmp_two G (by omega) (by omega))
  have sg2 := G.sign (v := 61) (by unfold isSg; decide) r9 hr9
  rw [show (61 : Int32).toInt = 61 by decide] at sg2
  exact al_ite (fun z9 => al_some (Or.inr ⟨by omega, rfl⟩)) (fun z9 => cmp_two G (by omega) (by omega))
/-- the class's compare -/
theorem loop_one (g : dH) {rec : Int32 → Int32 → dH → Option dH} {v1 v2 : Int32} (hv1 : v1.toInt = 2) : Al (l_X1_read_76 rec v1 v2 1 (fun f => some f) fuel0 0 g) (fun f => (((g 42 3).toInt = 60 ∨ (g 42 3).toInt = 61) ∧ ∃ g23 g24, f_X1_next g = some g23 ∧ rec (v1 + 1) v2 g23 = some g24 ∧ f_X5_write (dtx (g24 42 1)) (cmX (g 42 3).toInt) g24 = some f) ∨ (¬ ((g 42 3).toInt = 60 ∨ (g 42 3).toInt = 61) ∧ f = g)) := by
  rw [show fuel0 = 998 + 1 + 1 from rfl, l_X1_read_76]
  refine al_ite (fun c1 => al_oP (fun r hr => al_ite (fun c2 => al_oP (fun r2 hr2 => al_oV' (fun g23 h23 => al_oV' (fun g24 h24 => al_oV' (fun g25 h25 => ?_))))) (fun c2 => ?_))) (fun c1 => absurd (by decide) c1)
  · have lv := level_ok r hr
    have op := oper_ok r2 hr2
    have hc : (g 42 3).toInt = 60 ∨ (g 42 3).toInt = 61 := by omega
    have er : r2 = cmX (g 42 3).toInt := by
      unfold cmX
      rcases op with ⟨a, b⟩ | ⟨a, b⟩ | ⟨a, b⟩ | ⟨a, b⟩ | ⟨a, b⟩ | ⟨a, b⟩ | ⟨a1, a2, a3, a4, a5, a6, b⟩
      · omega
      · omega
      · rw [if_pos a]; exact b
      · rw [if_neg (by omega)]; exact b
      · omega
      · omega
      · omega
    rw [l_X1_read_76, if_neg (by decide)]
    exact al_some (Or.inl ⟨hc, g23, g24, h23, h24, by rw [← er]; exact h25⟩)
  · have lv := level_ok r hr
    exact al_some (Or.inr ⟨by omega, rfl⟩)
theorem trn_not (a : Int32) : trn (-14) a = if a.toInt = 0 then 1 else 0 := by
  unfold trn
  rw [if_neg (by decide)]
/-- behind the sum: a compare, on both sides -/
theorem cmp_both {m D : Nat} {A : dH → Option (Int32 × dH)} (hA : Rd B N P n k m 3 D A) {u v : Int32} (hu : u.toInt = 2) (hv : v.toInt = k) {g0 h0 g h : dH} {i0 : Nat} {r1 : Int32} (hO : Out B N P n k D i0 g0 h0 g (r1, h)) (f : dH) (o : Int32 × dH) (hf : l_X1_read_76 (f_X1_read m) u v 1 (fun f => some f) fuel0 0 g = some f) (ho : tCmp A r1 h = some o) : Out B N P n k (D + 1) i0 g0 h0 f o := by
  obtain ⟨o1, o2, o3, o4⟩ := hO
  simp only at o2 o3 o4
  rcases o4 with bd | ⟨i', S1, j1, j2, em⟩
  · have st := cbad_loop (rec := f_X1_read m) (v2 := v) (v3 := 1) (show 0 ≤ u.toInt by omega) fuel0 0 g bd.cb f hf
    have eo := cmp_bad bd.2.1 o ho
    subst eo
    exact Out.bad (st.1.pF.trans o1) o2 o3 (bd.stay st)
  · obtain ⟨⟨c, s, e, w, G⟩, z1, z2, z3⟩ := id S1
    have g3 := G.2.2.2.2.2.2.2.2.2.1
    have lo := loop_one g hu f hf
    rw [g3] at lo
    rcases cmp_ok G o ho with ⟨hc, he, h1, r, h2, q1, q2, q3⟩ | ⟨hc, q⟩
    · rcases lo with ⟨-, g23, g24, p1, p2, p3⟩ | ⟨hn, -⟩
      · subst q3
        have hin := G.2.2.2.2.2.2.2.1
        have tn := G.1.2.1
        obtain ⟨⟨c', s', e', w', G1⟩, r1', mm1, k26⟩ := G.next (by omega) he p1 q1
        have tv : (u + 1).toInt = 3 := (inc1a (by omega)).trans (by omega)
        have S2 : St B N P n k (i' + 1) g23 h1 := ⟨⟨c', s', e', w', G1⟩, by rw [r1'.same.2.1]; omega, by rw [r1'.size]; exact z2, by rw [k26]; exact z3⟩
        obtain ⟨y1, y2, y3, y4⟩ := hA (u + 1) v g23 h1 (i' + 1) g24 (r, h2) tv hv S2 p2 q2
        simp only at y2 y3 y4
        rcases y4 with bd | ⟨i2, S3, l1, l2, em2⟩
        · obtain ⟨p, q⟩ := write_any f p3
          exact Out.bad (p.trans (y1.trans (r1'.pF.trans o1))) (y2.trans (mm1.trans o2)) y3 (bd.eq q (fun _ _ => rfl))
        · obtain ⟨⟨c2, s2, e2, w2, G2⟩, x1, x2, x3⟩ := S3
          have in2 := G2.2.2.2.2.2.2.2.1
          have e23 := r1'.same.2.1
          obtain ⟨wr, p, q, y0⟩ := Wr.of x2 (by omega) p3
          have em3 : Em (nmF h0) D r g g24 := (em2.nm ((mm1.trans o2).nm)).left r1'
          have hx : -14 < (cmX c).toInt ∧ (cmX c).toInt < -6 := by
            unfold cmX
            by_cases z : c = 60
            · rw [if_pos z]; decide
            · rw [if_neg z]; decide
          have em4 := (em.mono (show D ≤ D + 1 by omega)).bin em3 wr hx (by omega)
          exact ⟨p.trans (y1.trans (r1'.pF.trans o1)), y2.trans (mm1.trans o2), y3, Or.inr ⟨i2, ⟨⟨c2, s2, e2, w2, G2.wr p q⟩, by rw [wr.1]; omega, y0, y3⟩, by omega, by rw [wr.1]; omega, em4⟩⟩
      · exact absurd hc hn
    · rcases lo with ⟨hn, -⟩ | ⟨-, ef⟩
      · exact absurd hn hc
      · subst ef q
        exact ⟨o1, o2, o3, Or.inr ⟨i', S1, j1, j2, em.mono (by omega)⟩⟩
/-- not, while more may be open -/
theorem Rd.not {m D D' : Nat} (hk : k < 5) (hD : D' ≤ D + 1) {A S F : dH → Option (Int32 × dH)} (hA : Rd B N P n k m 3 D A) (hN : Rd B N P n (k + 1) m 2 D' S) (hF : ∀ h, F h = tNot A S h) : Rd B N P n k (m + 1) 2 (D + 1) F := by
  intro u v g h i f o hu hv hs hf ho
  have hf' : f_X1_readB (f_X1_read m) u v g = some f := hf
  clear hf
  rw [hF] at ho
  have hu2 : u.toInt = 2 := by omega
  obtain ⟨c, s, e, w, G⟩ := hs.1
  have g3 := G.2.2.2.2.2.2.2.2.2.1
  have tv : (u + 1).toInt = 3 := (inc1a (by omega)).trans (by omega)
  unfold f_X1_readB at hf'
  rw [if_neg (by omega), if_pos hu2] at hf'
  unfold tNot at ho
  revert o
  refine al_oP (fun r1 hr1 => ?_)
  have q := G.key (k := 5) (by omega) (by decide) r1 hr1
  by_cases c9 : (g 42 3).toInt = 309
  · rw [if_pos c9] at hf'
    rw [if_neg (by omega)]
    have he := G.here (Or.inr (Or.inl (by omega)))
    revert f
    refine al_oI (fun a g9 ha => ?_)
    intro f hf
    refine al_oI (fun b g37 hb => ?_)
    obtain ⟨r, mm, q⟩ := opens_ok hs G (by omega) he (by omega) hv ha hb
    simp only at r mm q
    rcases q with ⟨k1, a1, b1, S1⟩ | ⟨k1, -⟩
    · rw [if_neg (by omega)] at hf
      rw [if_neg (by omega)]
      have tv1 : (v + 1).toInt = (k : Int) + 1 := i_add hv (by decide) (by omega) (by omega)
      refine al_oI (fun r40 g41 h41 => al_oH' (fun g42 h42 => ?_))
      revert f
      refine al_oV' (fun g12 h12 => al_oV' (fun g13 h13 => al_some ?_))
      obtain ⟨o1, o2, o3, o4⟩ := hN 2 (v + 1) g9 g37 (i + 1) g12 (r40, g41) (by decide) (by rw [tv1]; omega) S1 h12 h41
      simp only at o2 o3 o4
      have m42 : mSame g42 h := by rw [h42]; exact (mSame.up (by omega)).trans (o2.trans mm)
      have k42 : (g42 0 26).toInt = k := by
        rw [h42, dU_eq]
        have := i_sub (a := g41 0 26) (b := 1) o3 (by decide) (B := 1) (by omega) (by omega)
        rw [this]; omega
      have u42 : ∀ j, ¬ j = 26 → g42 0 j = g41 0 j := fun j hj => by rw [h42]; exact dU_ne (by omega)
      have fin : Al (if r40.toInt = 0 then some ((1 : Int32), g42) else some (0, g42)) (fun o => o = (trn (-14) r40, g42)) := al_ite (fun z => al_some (by rw [trn_not, if_pos z])) (fun z => al_some (by rw [trn_not, if_neg z]))
      intro o ho
      have eo := fin o ho
      subst eo
      rcases o4 with bd | ⟨i', S2, hi, hz, em⟩
      · obtain ⟨p, q⟩ := write_any g13 h13
        exact Out.bad (p.trans (o1.trans r.pF)) m42 k42 (bd.eq q u42)
      · obtain ⟨⟨c', s', e', w', G2⟩, z2, z20, z26⟩ := S2
        have tn := G2.1.2.1
        have hin := G2.2.2.2.2.2.2.2.1
        have hz0 := hs.2.1
        have e14 := r.same.2.1
        obtain ⟨wr, p, q, y0⟩ := Wr.of z20 (by omega) h13
        have em1 : Em (nmF h) D' r40 g g12 := (em.nm mm.nm).left r
        have em2 := (em1.un wr (by decide)).mono hD
        have G3 := (G2.wr p q).up26 ((g41 0 26) - 1)
        rw [← h42] at G3
        refine ⟨p.trans (o1.trans r.pF), m42, k42, Or.inr ⟨i', ⟨⟨c', s', e', w', G3⟩, ?_, y0, k42⟩, by omega, ?_, em2⟩⟩
        · rw [wr.1]; omega
        · rw [wr.1]; omega
    · omega
  · rw [if_neg c9] at hf'
    rw [if_pos (by omega)]
    revert f
    refine al_oV' (fun g14 h14 => ?_)
    rw [if_pos hu2]
    intro f hf
    refine al_oI (fun r4 g5 h5 => ?_)
    intro o ho
    exact cmp_both hA hu2 hv (hA (u + 1) v g h i g14 (r4, g5) tv hv hs h14 h5) f o hf ho
/-- not, where no more may be open -/
theorem Rd.not5 {m D : Nat} {A F : dH → Option (Int32 × dH)} (hA : Rd B N P n 5 m 3 D A) (hF : ∀ h, F h = tNot5 A h) : Rd B N P n 5 (m + 1) 2 (D + 1) F := by
  intro u v g h i f o hu hv hs hf ho
  have hf' : f_X1_readB (f_X1_read m) u v g = some f := hf
  clear hf
  rw [hF] at ho
  have hu2 : u.toInt = 2 := by omega
  obtain ⟨c, s, e, w, G⟩ := hs.1
  have g3 := G.2.2.2.2.2.2.2.2.2.1
  have tv : (u + 1).toInt = 3 := (inc1a (by omega)).trans (by omega)
  unfold f_X1_readB at hf'
  rw [if_neg (by omega), if_pos hu2] at hf'
  unfold tNot5 at ho
  revert o
  refine al_oP (fun r1 hr1 => ?_)
  have q := G.key (k := 5) (by omega) (by decide) r1 hr1
  by_cases c9 : (g 42 3).toInt = 309
  · rw [if_pos c9] at hf'
    rw [if_neg (by omega)]
    have he := G.here (Or.inr (Or.inl (by omega)))
    revert f
    refine al_oI (fun a g9 ha => ?_)
    intro f hf
    refine al_oI (fun b g37 hb => ?_)
    obtain ⟨r, mm, q⟩ := opens_ok hs G (by omega) he (by omega) hv ha hb
    simp only at r mm q
    rcases q with ⟨k1, -⟩ | ⟨-, a1, b1, bd, k26⟩
    · omega
    · rw [if_pos a1] at hf
      cases hf
      exact al_some (Out.bad r.pF mm k26 bd)
  · rw [if_neg c9] at hf'
    rw [if_pos (by omega)]
    revert f
    refine al_oV' (fun g14 h14 => ?_)
    rw [if_pos hu2]
    intro f hf
    refine al_oI (fun r4 g5 h5 => ?_)
    intro o ho
    exact cmp_both hA hu2 hv (hA (u + 1) v g h i g14 (r4, g5) tv hv hs h14 h5) f o hf ho
end PR
end
end

section
/-! all levels, depth by depth -/
noncomputable section
def tAtom5 (h : dH) : Option (Int32 × dH) := oP (f_X7_isSign 45 h) (fun r1 => if r1.toInt = 0 then (oP (f_X7_isSign 40 h) (fun r4 => if r4.toInt = 0 then (if (h 0 27).toInt = 0 then (if (h 0 23).toInt = 2 then (oV (f_X7_next  h) (fun g11 => some ((h 0 25).toInt64.toInt32, g11))) else (if (h 0 27).toInt = 0 then (if (h 0 23).toInt = 1 then (oI (f_X7_name  h) (fun r16 g17 => if (g17 0 27).toInt = 0 then (oV (f_X7_next  g17) (fun g20 => some (r16, g20))) else (some (r16, g17)))) else (oV (f_X7_fail  h) (fun g21 => some (0, g21)))) else (oV (f_X7_fail  h) (fun g22 => some (0, g22))))) else (if (h 0 27).toInt = 0 then (if (h 0 23).toInt = 1 then (oI (f_X7_name  h) (fun r27 g28 => if (g28 0 27).toInt = 0 then (oV (f_X7_next  g28) (fun g31 => some (r27, g31))) else (some (r27, g28)))) else (oV (f_X7_fail  h) (fun g32 => some (0, g32)))) else (oV (f_X7_fail  h) (fun g33 => some (0, g33))))) else (oI (f_X7_opens  h) (fun _ g35 => some (0, g35))))) else (oI (f_X7_opens  h) (fun _ g37 => some (0, g37))))
theorem atom5_t (h : dH) : f_X7_atom5 h = tAtom5 h := rfl
section PR
variable {B : Nat → Int} {N : Nat} {P : Nat → Nat} {n : Nat} {i k : Nat} {c : Int} {s e : Nat} {w : Int} {g h : dH}
/-- what opens is a fault -/
theorem open5 (hs : St B N P n 5 i g h) (G : Good B N P n i c s e w g h) (hc : ¬ c = 300) (he : (h 0 22).toInt = e) {v : Int32} (hv : v.toInt = 5) {T : dH → Option dH} : Al (oI (f_X1_opens v g) (fun r13 g14 => if r13.toInt = 0 then (some g14) else T g14)) (fun f => ∀ o, oI (f_X7_opens h) (fun _ g53 => some ((0 : Int32), g53)) = some o → Out B N P n 5 1 i g h f o) := by
  refine al_oI (fun a g14 ha => ?_)
  intro f hf
  refine al_oI (fun b g53 hb => ?_)
  obtain ⟨r, mm, q⟩ := opens_ok hs G hc he (by omega) hv ha hb
  simp only at r mm q
  rcases q with ⟨k1, -⟩ | ⟨-, a1, b1, bd, k26⟩
  · omega
  · rw [if_pos a1] at hf
    cases hf
    exact al_some (Out.bad r.pF mm k26 bd)
theorem one_five {m : Nat} (n' : Nat) {v : Int32} (hv : v.toInt = 5) (hs : St B N P n 5 i g h) : Al (f_X1_readOne (f_X1_read m) n' v g) (fun f => ∀ o, tAtom5 h = some o → Out B N P n 5 1 i g h f o) := by
  cases n' with
  | zero => exact al_none
  | succ n' =>
    obtain ⟨c, s, e, w, G⟩ := hs.1
    intro f hf
    have cl := one_cls G f hf
    have b27 := G.2.2.2.2.2.2.1
    have m2 := G.2.2.2.2.2.2.2.2.2.2.2.2.2.1.2
    have cl1 : (c = 302 ∨ c = 303) → ∃ g4, f_X5_write (dtx (g 42 1)) (g 4 i) g = some g4 ∧ f_X1_next g4 = some f := fun z => by
      rcases cl with q | q | q | q
      · exact q.2
      · omega
      · omega
      · omega
    have clf : ¬ c = 302 → ¬ c = 303 → ¬ c = 45 → ¬ c = 40 → f_X1_fail g = some f := fun z1 z2 z3 z4 => by
      rcases cl with q | q | q | q
      · omega
      · exact absurd q.1 z3
      · exact absurd q.1 z4
      · exact q.2.2.2.2
    unfold tAtom5
    refine al_oP (fun r1 hr1 => ?_)
    have s1 := G.sign (v := 45) (by unfold isSg; decide) r1 hr1
    rw [show (45 : Int32).toInt = 45 by decide] at s1
    refine al_ite (fun c1 => al_oP (fun r4 hr4 => ?_)) (fun c1 => ?_)
    · have s2 := G.sign (v := 40) (by unfold isSg; decide) r4 hr4
      rw [show (40 : Int32).toInt = 40 by decide] at s2
      refine al_ite (fun c4 => al_ite (fun _ => al_ite (fun c2 => num_case hs G c2 cl1) (fun c2 => al_ite (fun _ => al_ite (fun c3 => word_case hs G c3 cl1 clf) (fun c3 => fail_case hs G (clf ?_ ?_ ?_ ?_))) (fun z => absurd b27 z))) (fun z => absurd b27 z)) (fun c4 => ?_)
      · unfold isSg at m2; omega
      · unfold isSg at m2; omega
      · omega
      · omega
      · have hc : c = 40 := by omega
        subst hc
        rcases cl with q | q | q | q
        · omega
        · omega
        · exact open5 hs G (by omega) (G.here (Or.inr (Or.inr (by unfold isSg; omega)))) hv f q.2
        · omega
    · have hc : c = 45 := by omega
      subst hc
      rcases cl with q | q | q | q
      · omega
      · exact open5 hs G (by omega) (G.here (Or.inr (Or.inr (by unfold isSg; omega)))) hv f q.2
      · omega
      · omega
theorem Rd.mono {m lv D D' : Nat} {S : dH → Option (Int32 × dH)} (hS : Rd B N P n k m lv D S) (hDD : D ≤ D') : Rd B N P n k m lv D' S := fun u v g h i f o a1 a2 a3 a4 a5 => (hS u v g h i f o a1 a2 a3 a4 a5).mono hDD
variable (B N P n k) in
/-- all levels at one depth -/
def Dep (At Te Ad No Bo Ei : dH → Option (Int32 × dH)) : Prop := ∀ m : Nat, (∀ (n' : Nat) (v : Int32) (g h : dH) (i : Nat) (f : dH) (o : Int32 × dH), v.toInt = k → St B N P n k i g h → f_X1_readOne (f_X1_read m) n' v g = some f → At h = some o → Out B N P n k (1 + 5 * (5 - k)) i g h f o) ∧ Rd B N P n k m 5 (1 + 5 * (5 - k)) At ∧ Rd B N P n k m 4 (1 + 5 * (5 - k) + 1) Te ∧ Rd B N P n k m 3 (1 + 5 * (5 - k) + 1 + 1) Ad ∧ Rd B N P n k m 2 (1 + 5 * (5 - k) + 1 + 1 + 1) No ∧ Rd B N P n k m 1 (1 + 5 * (5 - k) + 1 + 1 + 1 + 1) Bo ∧ Rd B N P n k m 0 (1 + 5 * (5 - k) + 1 + 1 + 1 + 1 + 1) Ei
theorem Dep.of {At Te Ad No Bo Ei : dH → Option (Int32 × dH)} {TL AL BL EL : Nat → Int32 → dH → Option (Int32 × dH)} (hOne : ∀ (m n' : Nat) (v : Int32) (g h : dH) (i : Nat) (f : dH) (o : Int32 × dH), v.toInt = k → St B N P n k i g h → f_X1_readOne (f_X1_read m) n' v g = some f → At h = some o → Out B N P n k (1 + 5 * (5 - k)) i g h f o) (hNot : ∀ m, Rd B N P n k m 3 (1 + 5 * (5 - k) + 1 + 1) Ad → Rd B N P n k (m + 1) 2 (1 + 5 * (5 - k) + 1 + 1 + 1) No) (hT : LoopM B N P n (fun c => c = 42) (fun _ => -13) At TL) (hTe : ∀ h, Te h = oI (At h) (fun r g => TL fuel0 r g)) (hA : LoopM B N P n (fun c => c = 43 ∨ c = 45) (fun c => if c = 43 then -11 else -12) Te AL) (hAd : ∀ h, Ad h = oI (Te h) (fun r g => AL fuel0 r g)) (hB : LoopM B N P n (fun c => c = 308) (fun _ => -8) No BL) (hBo : ∀ h, Bo h = oI (No h) (fun r g => BL fuel0 r g)) (hE : LoopM B N P n (fun c => c = 307) (fun _ => -7) Bo EL) (hEi : ∀ h, Ei h = oI (Bo h) (fun r g => EL fuel0 r g)) : Dep B N P n k At Te Ad No Bo Ei := by
  intro m
  refine ⟨hOne m, ?_⟩
  induction m with
  | zero => exact ⟨Rd.zero, Rd.zero, Rd.zero, Rd.zero, Rd.zero, Rd.zero⟩
  | succ m ih =>
    obtain ⟨i5, i4, i3, i2, i1, i0⟩ := ih
    exact ⟨Rd.one (hOne m), Rd.term i5 hT hTe, Rd.added i4 hA hAd, hNot m i3, Rd.both i2 hB hBo, Rd.either i1 hE hEi⟩
theorem Dep.step (hk : k < 5) {At Te Ad No Bo Ei At' Te' Ad' No' Bo' Ei' : dH → Option (Int32 × dH)} {TL AL BL EL : Nat → Int32 → dH → Option (Int32 × dH)} (hD : Dep B N P n (k + 1) At' Te' Ad' No' Bo' Ei') (hAt : ∀ h, At h = tAtom Ei' At' h) (hNo : ∀ h, No h = tNot Ad No' h) (hT : LoopM B N P n (fun c => c = 42) (fun _ => -13) At TL) (hTe : ∀ h, Te h = oI (At h) (fun r g => TL fuel0 r g)) (hA : LoopM B N P n (fun c => c = 43 ∨ c = 45) (fun c => if c = 43 then -11 else -12) Te AL) (hAd : ∀ h, Ad h = oI (Te h) (fun r g => AL fuel0 r g)) (hB : LoopM B N P n (fun c => c = 308) (fun _ => -8) No BL) (hBo : ∀ h, Bo h = oI (No h) (fun r g => BL fuel0 r g)) (hE : LoopM B N P n (fun c => c = 307) (fun _ => -7) Bo EL) (hEi : ∀ h, Ei h = oI (Bo h) (fun r g => EL fuel0 r g)) : Dep B N P n k At Te Ad No Bo Ei := by
  refine Dep.of (fun m n' v g h i f o hv hs hf ho => ?_) (fun m h3 => ?_) hT hTe hA hAd hB hBo hE hEi
  · obtain ⟨q1, -, -, -, -, -, q0⟩ := hD m
    rw [hAt] at ho
    refine one_gen hk (E := Ei') (A := At') (fun v1 v2 g h i f o z1 z2 z3 z4 z5 => ?_) (fun n' v g h i f o z2 z3 z4 z5 => q1 n' v g h i f o (by omega) z3 z4 z5) n' hv hs f hf o ho
    exact ((q0 v1 v2 g h i f o (by omega) (by omega) z3 z4 z5)).mono (by omega)
  · obtain ⟨-, -, -, -, q2, -, -⟩ := hD m
    exact Rd.not hk (by omega) h3 q2 hNo
theorem dep5 : Dep B N P n 5 f_X7_atom5 f_X7_term5 f_X7_added5 f_X7_not5 f_X7_both5 f_X7_either5 :=
  Dep.of (fun m n' v g h i f o hv hs hf ho => by
    rw [atom5_t] at ho
    exact one_five n' hv hs f hf o ho) (fun m h3 => Rd.not5 h3 not5_t) termL5 termF5 addedL5 addedF5 bothL5 bothF5 eitherL5 eitherF5
theorem dep4 : Dep B N P n 4 f_X7_atom4 f_X7_term4 f_X7_added4 f_X7_not4 f_X7_both4 f_X7_either4 := Dep.step (by omega) dep5 atom4_t not4_t termL4 termF4 addedL4 addedF4 bothL4 bothF4 eitherL4 eitherF4
theorem dep3 : Dep B N P n 3 f_X7_atom3 f_X7_term3 f_X7_added3 f_X7_not3 f_X7_both3 f_X7_either3 := Dep.step (by omega) dep4 atom3_t not3_t termL3 termF3 addedL3 addedF3 bothL3 bothF3 eitherL3 eitherF3
theorem dep2 : Dep B N P n 2 f_X7_atom2 f_X7_term2 f_X7_added2 f_X7_not2 f_X7_both2 f_X7_either2 := Dep.step (by omega) dep3 atom2_t not2_t termL2 termF2 addedL2 addedF2 bothL2 bothF2 eitherL2 eitherF2
theorem dep1 : Dep B N P n 1 f_X7_atom1 f_X7_term1 f_X7_added1 f_X7_not1 f_X7_both1 f_X7_either1 := Dep.step (by omega) dep2 atom1_t not1_t termL1 termF1 addedL1 addedF1 bothL1 bothF1 eitherL1 eitherF1
theorem dep0 : Dep B N P n 0 f_X7_atom0 f_X7_term0 f_X7_added0 f_X7_not0 f_X7_both0 f_X7_either0 := Dep.step (by omega) dep1 atom0_t not0_t termL0 termF0 addedL0 addedF0 bothL0 bothF0 eitherL0 eitherF0
/-- a whole E -/
theorem e_ok (m : Nat) : Rd B N P n 0 m 0 31 f_X7_either0 := (dep0 m).2.2.2.2.2.2
end PR
end
end

section
/-! tokens hang on the text's bytes alone; the first token -/
noncomputable section
theorem Run.congr {B C : Nat → Int} {N : Nat} (hBC : ∀ j, j < N → B j = C j) {f : Int → Prop} {p q : Nat} (h : Run f B N p q) : Run f C N p q := by
  obtain ⟨a1, a2, a3, a4⟩ := h
  exact ⟨a1, a2, fun j j1 j2 => by rw [← hBC j (by omega)]; exact a3 j j1 j2, fun z => by rw [← hBC q z]; exact a4 z⟩
theorem isW.congr {B C : Nat → Int} {N : Nat} (hBC : ∀ j, j < N → B j = C j) {s e : Nat} {l : List Int} (he : e ≤ N) : isW B s e l ↔ isW C s e l := by
  unfold isW
  constructor
  · intro ⟨h1, h2⟩
    exact ⟨h1, fun j hj => by rw [← hBC _ (by omega)]; exact h2 j hj⟩
  · intro ⟨h1, h2⟩
    exact ⟨h1, fun j hj => by rw [hBC _ (by omega)]; exact h2 j hj⟩
theorem numV_congr {B C : Nat → Int} {N : Nat} (hBC : ∀ j, j < N → B j = C j) {s : Nat} : ∀ n, s + n ≤ N → numV B s n = numV C s n
  | 0, _ => rfl
  | n + 1, h => by
    rw [numV, numV, numV_congr hBC n (by omega), hBC _ (by omega)]
theorem Tok.congr {B C : Nat → Int} {N : Nat} (hBC : ∀ j, j < N → B j = C j) {p : Nat} {c : Int} {s e : Nat} {w : Int} (h : Tok B N p c s e w) : Tok C N p c s e w := by
  obtain ⟨h1, h2⟩ := h
  refine ⟨h1.congr hBC, ?_⟩
  rcases h2 with q | ⟨q1, q2, q3, q4⟩ | ⟨q1, q2, q3, q4⟩ | ⟨q1, q2, q3, q4, q5, q6⟩
  · exact Or.inl q
  · have l1 := q3.1
    have l2 := q3.2.1
    rw [hBC s q1] at q2
    refine Or.inr (Or.inl ⟨q1, q2, q3.congr hBC, ?_⟩)
    rcases q4 with q4 | ⟨a, b, c⟩
    · exact Or.inl q4
    · exact Or.inr ⟨a, b, by rw [c, numV_congr hBC _ (by omega)]⟩
  · have l2 := q3.2.1
    rw [hBC s q1] at q2
    refine Or.inr (Or.inr (Or.inl ⟨q1, q2, q3.congr hBC, ?_⟩))
    rcases q4 with ⟨i, i1, i2, i3, i4⟩ | ⟨i, i1, i2, i3⟩ | ⟨i1, i2⟩
    · exact Or.inl ⟨i, i1, (isW.congr hBC l2).mp i2, i3, i4⟩
    · exact Or.inr (Or.inl ⟨i, i1, (isW.congr hBC l2).mp i2, i3⟩)
    · exact Or.inr (Or.inr ⟨fun i hi => ⟨fun z => (i1 i hi).1 ((isW.congr hBC l2).mpr z), fun z => (i1 i hi).2 ((isW.congr hBC l2).mpr z)⟩, i2⟩)
  · rw [hBC s q1] at q2 q3 q4 q5
    exact Or.inr (Or.inr (Or.inr ⟨q1, q2, q3, q4, q5, q6⟩))
theorem Toks.congr {B C : Nat → Int} {N : Nat} (hBC : ∀ j, j < N → B j = C j) {P : Nat → Nat} {n : Nat} {g : dH} (t : Toks B N P n g) : Toks C N P n g := by
  obtain ⟨t1, t2, t3, t4, t5, t6⟩ := t
  refine ⟨t1, t2, fun j hj => ?_, t4.congr hBC, t5, t6⟩
  obtain ⟨c, s, w, a1, a2, a3, a4, a5⟩ := t3 j hj
  exact ⟨c, s, w, a1, a2.congr hBC, a3, a4, a5⟩
section PR
variable {B : Nat → Int} {N : Nat} {P : Nat → Nat} {n : Nat} {g h : dH}
/-- both at the first token -/
theorem Good.first (t : Toks B N P n g) (o : mOk h) (hB : mB h = B) (hN : (h 0 21).toInt.toNat = N) (hb : ∀ j, j < N → 0 ≤ B j ∧ B j ≤ 255) (b4 : (g 42 4).toInt = -1) (b27 : (h 0 27).toInt = 0) (h22 : (h 0 22).toInt = 0) (g2 : (g 42 2).toInt = 0) (g3 : g 42 3 = g 2 0) {k : dH} (hk : f_X7_next h = some k) : (∃ c s e w, Good B N P n 0 c s e w g k) ∧ mSame k h ∧ k 0 26 = h 0 26 := by
  have q := next_ok o (fun j hj => by rw [hB]; exact hb j (by omega)) (by omega) (by have := o.2.2.1; omega) k hk
  obtain ⟨m, k26, k27, k28, c', s', e', w', tk', mt'⟩ := q
  rw [hB, hN, h22, show (0 : Int).toNat = 0 from rfl, ← t.1] at tk'
  obtain ⟨d, u, v, x, y1, y2, y3, y4, y5⟩ := t.at (Nat.zero_le n)
  obtain ⟨z1, z2, z3, z4⟩ := y1.uniq tk'
  subst z1 z2 z3
  have hmt : mtk k d u v x := by
    refine ⟨mt'.1, ?_⟩
    rcases mt'.2 with a | a | a | a | a | a
    · exact Or.inl a
    · exact Or.inr (Or.inl a)
    · exact Or.inr (Or.inr (Or.inl ⟨a.1, a.2.1, a.2.2.1, by rw [a.2.2.2, z4 (Or.inl a.1) (fun j hj => (hb j hj).2)]⟩))
    · exact Or.inr (Or.inr (Or.inr (Or.inl a)))
    · exact Or.inr (Or.inr (Or.inr (Or.inr (Or.inl a))))
    · exact Or.inr (Or.inr (Or.inr (Or.inr (Or.inr a))))
  exact ⟨⟨d, u, v, x, t, m.ok o, m.bytes.trans hB, by rw [m.2 21 (by omega)]; exact hN, hb, b4, by rw [k27]; exact b27, Nat.zero_le _, by omega, by rw [g3]; exact y2, y1, y3, y4, hmt, y5⟩, m, k26⟩
end PR
/-! a part, text by text -/
def tP4 (v : Int32) (g : dH) : Option (Int32 × dH) := if (g 0 27).toInt = 0 then (oV (f_X7_next g) (fun k => some (v, k))) else (some (v, g))
def tP3 (v : Int32) (g : dH) : Option (Int32 × dH) := oP (f_X7_isSign 59 g) (fun r => if r.toInt = 0 then (oV (f_X7_fail g) (fun k => tP4 v k)) else (tP4 v g))
def tP2 (g : dH) : Option (Int32 × dH) := if (g 0 27).toInt = 0 then (oI (f_X7_either0 g) (fun r k => tP3 r k)) else (tP3 0 g)
def tP1 (g : dH) : Option (Int32 × dH) := if (g 0 27).toInt = 0 then (oV (f_X7_next g) (fun k => tP2 k)) else (tP2 g)
def tPart (v : Int32) (h : dH) : Option (Int32 × dH) := if v.toInt = 0 then (oV (f_X7_fail h) (fun k => tP1 k)) else (tP1 h)
theorem part_t (v : Int32) (h : dH) : f_X7_part v h = tPart v h := rfl
def tR3 (v : Int32) (p q r : Int32) (g : dH) : Option (Int32 × dH) := if v.toInt = 0 then (some (p, g)) else (if v.toInt = 1 then (some (q, g)) else (some (r, g)))
def tR2 (v : Int32) (p q r : Int32) (g : dH) : Option (Int32 × dH) := if (g 0 27).toInt = 0 then (if (g 0 23).toInt = 0 then (tR3 v p q r g) else (oV (f_X7_fail g) (fun k => tR3 v p q r k))) else (tR3 v p q r g)
def tR1 (v : Int32) (p q : Int32) (g : dH) : Option (Int32 × dH) := if (g 0 27).toInt = 0 then (oP (f_X7_isWord 115 111 117 110 100 115 0 0 g) (fun w => oI (f_X7_part w g) (fun r k => tR2 v p q r k))) else (tR2 v p q 0 g)
def tR0 (v : Int32) (p : Int32) (g : dH) : Option (Int32 × dH) := if (g 0 27).toInt = 0 then (oP (f_X7_isWord 102 97 100 101 115 0 0 0 g) (fun w => oI (f_X7_part w g) (fun q k => tR1 v p q k))) else (tR1 v p 0 g)
def tRead (v1 v2 : Int32) (h : dH) : Option (Int32 × dH) := oH (dU h 0 20 (160 * v1)) (fun g1 => if 0 ≤ v1.toInt ∧ v1.toInt < 6 then (oH (dU g1 0 21 (g1 2 (v1.toInt.toNat))) (fun g3 => oH (dU g3 0 22 0) (fun g4 => oH (dU g4 0 26 0) (fun g5 => oH (dU g5 0 27 0) (fun g6 => oV (f_X7_next g6) (fun g7 => oP (f_X7_isWord 109 101 101 116 115 0 0 0 g7) (fun w => oI (f_X7_part w g7) (fun p k => tR0 v2 p k)))))))) else none)
theorem read_t (v1 v2 : Int32) (h : dH) : f_X7_read v1 v2 h = tRead v1 v2 h := rfl
end
end

section
/-! a part: both alike -/
noncomputable section
section PR
variable {B : Nat → Int} {N : Nat} {P : Nat → Nat} {n : Nat} {i : Nat} {c : Int} {s e : Nat} {w : Int} {g h : dH}
theorem bad_p4 {v : Int32} (hb : ¬ (h 0 27).toInt = 0) : Al (tP4 v h) (fun o => o = (v, h)) := by
  unfold tP4
  rw [if_neg hb]
  exact al_some rfl
theorem bad_p3 {v : Int32} (hb : ¬ (h 0 27).toInt = 0) : Al (tP3 v h) (fun o => o = (v, h)) := by
  unfold tP3
  refine al_oP (fun r hr => ?_)
  rw [if_pos (bad_sign hb r hr)]
  refine al_oV' (fun k hk => ?_)
  have ek := bad_fail hb k hk
  subst ek
  exact bad_p4 hb
theorem bad_p1 (hb : ¬ (h 0 27).toInt = 0) : Al (tP1 h) (fun o => o = (0, h)) := by
  unfold tP1
  rw [if_neg hb]
  unfold tP2
  rw [if_neg hb]
  exact bad_p3 hb
/-- what a part leaves, as pF, and one end -/
def pE (kk : Nat) (f g : dH) : Prop := ∀ a k, ¬ (a = 42 ∧ 2 ≤ k ∧ k ≤ 4) → ¬ (a = rT g ∧ k = 1) → ¬ a = rT g + 1 → ¬ (a = rT g + 2 ∧ k = kk) → f a k = g a k
theorem pF.pE {kk : Nat} {f g : dH} (q : pF f g) : pE kk f g := fun a k a1 a2 a3 _ => q a k a1 a2 a3
theorem pE.tx {kk : Nat} {f g : dH} (q : pE kk f g) : rT f = rT g := by
  have := rT_or g
  unfold rT
  rw [q 42 1 (by omega) (by omega) (by omega) (by omega)]
theorem pE.trans {kk : Nat} {f g h : dH} (q : pE kk f g) (r : pE kk g h) : pE kk f h := fun a k a1 a2 a3 a4 => (q a k a1 (by rw [r.tx]; exact a2) (by rw [r.tx]; exact a3) (by rw [r.tx]; exact a4)).trans (r a k a1 a2 a3 a4)
theorem pE.rows {kk : Nat} {f g : dH} (q : pE kk f g) : ∀ a k, a = 2 ∨ a = 3 ∨ a = 4 → f a k = g a k := fun a k h => by
  have := rT_or g
  exact q a k (by omega) (by omega) (by omega) (by omega)
/-- an end is written -/
theorem end_ok {kk : Nat} {pt : Int32} (hpt : pt.toInt = kk) : Al (f_X5_endPart (dtx (g 42 1)) pt g) (fun f => (∀ a k, ¬ (a = rT g + 2 ∧ k = kk) → f a k = g a k) ∧ f (rT g + 2) kk = g (rT g) 1) := by
  unfold f_X5_endPart
  have e : pt.toInt.toNat = kk := by omega
  refine al_ite (fun _ => al_oH' (fun f hf => al_some ?_)) (fun _ => al_none)
  rw [e] at hf
  refine ⟨fun a k q => ?_, ?_⟩
  · rw [hf]; exact dU_ne q
  · rw [hf]; exact dU_eq
theorem Good.wr2 {g1 : dH} (G : Good B N P n i c s e w g h) (p : ∀ a k, a = 2 ∨ a = 3 ∨ a = 4 → g1 a k = g a k) (q : ∀ k, g1 42 k = g 42 k) : Good B N P n i c s e w g1 h := by
  obtain ⟨t, o, hB, hN, hb, b4, b27, hi, g2, g3, tk, gs, gw, mt, hn⟩ := G
  exact ⟨t.same p, o, hB, hN, hb, by rw [q]; exact b4, b27, hi, by rw [q]; exact g2, by rw [q]; exact g3, tk, by rw [p 3 i (by omega)]; exact gs, fun z => by rw [p 4 i (by omega)]; exact gw z, mt, hn⟩
variable (B N P n) in
def Par (kk i : Nat) (g h f : dH) (o : Int32 × dH) : Prop := pE kk f g ∧ mSame o.2 h ∧ (o.2 0 26).toInt = 0 ∧ (Bad f o.2 ∨ ∃ i', St B N P n 0 i' f o.2 ∧ i < i' ∧ rZ f + i ≤ rZ g + i' ∧ Em (nmF h) 31 o.1 g f ∧ f (rT g + 2) kk = f (rT g) 1)
theorem expect_ok {v : Int32} (g3 : (g 42 3).toInt = c) : Al (f_X1_expect v g) (fun f => (c = v.toInt ∧ f_X1_next g = some f) ∨ (¬ c = v.toInt ∧ f_X1_fail g = some f)) := by
  unfold f_X1_expect
  exact al_ite (fun z => al_oV' (fun f hf => al_some (Or.inl ⟨by omega, hf⟩))) (fun z => al_oV' (fun f hf => al_some (Or.inr ⟨by omega, hf⟩)))
/-- the part's end behind a fault -/
theorem bad_end {kk : Nat} {pt : Int32} (hpt : pt.toInt = kk) {f0 f1 : dH} {m : dH} (b : Bad f0 m) (h4 : f_X5_endPart (dtx (f0 42 1)) pt f0 = some f1) : Bad f1 m ∧ pE kk f1 f0 := by
  obtain ⟨e1, e2⟩ := end_ok hpt f1 h4
  have := rT_or f0
  exact ⟨b.eq (fun k => e1 42 k (by omega)) (fun _ _ => rfl), fun a k _ _ _ q => e1 a k q⟩
theorem part_both {kk : Nat} (hkk : kk < 3) {ky pt r : Int32} (hky : ky.toInt = 304 + (kk : Int)) (hpt : pt.toInt = kk) (hs : St B N P n 0 i g h) (hr : ∀ c s e w, Good B N P n i c s e w g h → (r.toInt = 1 ∧ c = 304 + (kk : Int) ∧ (h 0 22).toInt = e) ∨ (r.toInt = 0 ∧ ¬ c = 304 + (kk : Int))) : Al (f_X1_readPart ky pt g) (fun f => ∀ o, f_X7_part r h = some o → Par B N P n kk i g h f o) := by
  obtain ⟨⟨c, s, e, w, G⟩, z1, z2, z26⟩ := id hs
  have y3 := G.2.2.2.2.2.2.2.2.2.1
  have b27 := G.2.2.2.2.2.2.1
  unfold f_X1_readPart
  refine al_oV' (fun g1 h1 => al_oV' (fun g2 h2 => al_oV' (fun g3 h3 => al_oV' (fun g4 h4 => al_some ?_))))
  intro o ho
  rw [part_t] at ho
  have hex := expect_ok y3 g1 h1
  rw [hky] at hex
  rcases hr c s e w G with ⟨r1, rc, he⟩ | ⟨r0, rc⟩
  · rcases hex with ⟨-, n1⟩ | ⟨q, -⟩
    · unfold tPart at ho
      rw [if_neg (by omega)] at ho
      unfold tP1 at ho
      rw [if_pos b27] at ho
      revert o
      refine al_oV' (fun k1 hk1 => ?_)
      obtain ⟨⟨c1, s1, e1, w1, G1⟩, rr1, mm1, k26⟩ := G.next (by omega) he n1 hk1
      have S1 : St B N P n 0 (i + 1) g1 k1 := ⟨⟨c1, s1, e1, w1, G1⟩, by rw [rr1.same.2.1]; omega, by rw [rr1.size]; exact z2, by rw [k26]; exact z26⟩
      unfold tP2
      rw [if_pos G1.2.2.2.2.2.2.1]
      refine al_oI (fun v k2 hk2 => ?_)
      obtain ⟨o1, o2, o3, o4⟩ := e_ok recF 0 0 g1 k1 (i + 1) g2 (v, k2) (by decide) (by decide) S1 h2 hk2
      simp only at o2 o3 o4
      have em0 : ∀ {D : Nat} {x : Int32} {q : dH}, Em (nmF k1) D x g1 q → Em (nmF h) D x g q := fun m => (m.nm mm1.nm).left rr1
      rcases o4 with bd | ⟨i', S2, j1, j2, em⟩
      · have st := cbad_expect bd.cb (by decide) g3 h3
        obtain ⟨b4, p4⟩ := bad_end hpt (bd.stay st) h4
        intro o ho
        have eo := bad_p3 bd.2.1 o ho
        subst eo
        exact ⟨p4.trans (st.1.pF.pE.trans (o1.pE.trans rr1.pF.pE)), o2.trans mm1, o3, Or.inl b4⟩
      · obtain ⟨⟨c2, s2, e2, w2, G2⟩, y1, y2, y26⟩ := id S2
        have hex2 := expect_ok G2.2.2.2.2.2.2.2.2.2.1 g3 h3
        rw [show (59 : Int32).toInt = 59 by decide] at hex2
        unfold tP3
        refine al_oP (fun r2 hr2 => ?_)
        have sg := G2.sign (v := 59) (by unfold isSg; decide) r2 hr2
        rw [show (59 : Int32).toInt = 59 by decide] at sg
        rcases sg with ⟨a1, a2, a3⟩ | ⟨a1, a2⟩
        · rcases hex2 with ⟨-, n2⟩ | ⟨q, -⟩
          · rw [if_neg (by omega)]
            unfold tP4
            rw [if_pos G2.2.2.2.2.2.2.1]
            refine al_oV' (fun k3 hk3 => al_some ?_)
            obtain ⟨⟨c3, s3, e3, w3, G3⟩, rr3, mm3, k26'⟩ := G2.next (by omega) a3 n2 hk3
            obtain ⟨u1, u2⟩ := end_ok hpt g4 h4
            have t3 := rT_or g3
            have p4 : pE kk g4 g3 := fun a k _ _ _ q => u1 a k q
            have et : rT g4 = rT g3 := p4.tx
            have ez : rZ g4 = rZ g3 := by unfold rZ; rw [et, u1 _ _ (by omega)]
            have es : rS g4 = rS g3 := by unfold rS; rw [et]; funext k; exact u1 _ _ (by omega)
            have eT : rT g3 = rT g := (rr3.pF.tx).trans (o1.tx.trans rr1.pF.tx)
            have em3 : Em (nmF h) 31 v g g3 := (em0 em).right rr3
            have em4 : Em (nmF h) 31 v g g4 := by
              unfold Em at em3 ⊢
              rw [ez, es]
              exact em3
            have k26f : (k3 0 26).toInt = 0 := by rw [k26']; exact o3
            have e23 := rr3.same.2.1
            have e01 := rr1.same.2.1
            refine ⟨p4.trans (rr3.pF.pE.trans (o1.pE.trans rr1.pF.pE)), mm3.trans (o2.trans mm1), k26f, Or.inr ⟨i' + 1, ⟨⟨c3, s3, e3, w3, G3.wr2 p4.rows (fun k => u1 42 k (by omega))⟩, by omega, ?_, k26f⟩, by omega, by omega, em4, ?_⟩⟩
            · rw [et, u1 _ _ (by omega), rr3.size]; exact y2
            · rw [← eT, u2, u1 _ _ (by omega)]
          · exact absurd a2 q
        · rcases hex2 with ⟨q, -⟩ | ⟨-, n2⟩
          · exact absurd q a2
          · rw [if_pos a1]
            refine al_oV' (fun k3 hk3 => ?_)
            obtain ⟨b1, b2, b3, b5⟩ := G2.fail n2 hk3
            obtain ⟨b4, p4⟩ := bad_end hpt b1 h4
            intro o ho
            have eo := bad_p4 b1.2.1 o ho
            subst eo
            exact ⟨p4.trans (b2.pF.pE.trans (o1.pE.trans rr1.pF.pE)), b3.trans (o2.trans mm1), (congrArg Int32.toInt b5).trans o3, Or.inl b4⟩
    · exact absurd rc q
  · rcases hex with ⟨q, -⟩ | ⟨-, n1⟩
    · exact absurd q rc
    · unfold tPart at ho
      rw [if_pos r0] at ho
      revert o
      refine al_oV' (fun k1 hk1 => ?_)
      obtain ⟨b1, b2, b3, b5⟩ := G.fail n1 hk1
      have st1 := cbad_read recF 0 0 g1 (by decide) (by decide) b1.cb g2 h2
      have bd2 := b1.stay st1
      have st2 := cbad_expect bd2.cb (by decide) g3 h3
      obtain ⟨b4, p4⟩ := bad_end hpt (bd2.stay st2) h4
      intro o ho
      have eo := bad_p1 b1.2.1 o ho
      subst eo
      exact ⟨p4.trans (st2.1.pF.pE.trans (st1.1.pF.pE.trans b2.pF.pE)), b3, (congrArg Int32.toInt b5).trans z26, Or.inl b4⟩
end PR
end
end

section
/-! a whole text: both alike -/
noncomputable section
def tA (f : dH) (ta pt : Nat) : Nat := if pt = 0 then 0 else (f (ta + 2) (pt - 1)).toInt.toNat
def tB (f : dH) (ta pt : Nat) : Nat := (f (ta + 2) pt).toInt.toNat
/-- what a part of a text tells, by its steps -/
def tEv (f : dH) (ta : Nat) (nm : Nat → Int32) (pt : Nat) : Option (List Int32) := exR nm (f (ta + 1)) (tB f ta pt - tA f ta pt) (tA f ta pt) []
def tOk (f : dH) (ta : Nat) : Prop := ∀ pt, pt < 3 → tA f ta pt ≤ tB f ta pt ∧ 0 ≤ (f (ta + 2) pt).toInt ∧ (f (ta + 2) pt).toInt ≤ 160
theorem al_mono {α : Type} {t : Option α} {P Q : α → Prop} (h : Al t P) (hq : ∀ o, P o → Q o) : Al t Q := fun o ho => hq o (h o ho)
section PR
variable {B : Nat → Int} {N : Nat} {P : Nat → Nat} {n : Nat} {i : Nat} {c : Int} {s e : Nat} {w : Int} {g h : dH}
theorem r3_ok {v p q r : Int32} : Al (tR3 v p q r g) (fun o => o.2 = g ∧ (v.toInt = 0 → o.1 = p) ∧ (v.toInt = 1 → o.1 = q) ∧ (v.toInt = 2 → o.1 = r)) := by
  unfold tR3
  exact al_ite (fun a => al_some ⟨rfl, fun _ => rfl, fun z => by omega, fun z => by omega⟩) (fun a => al_ite (fun b => al_some ⟨rfl, fun z => absurd z a, fun _ => rfl, fun z => by omega⟩) (fun b => al_some ⟨rfl, fun z => absurd z a, fun z => absurd z b, fun _ => rfl⟩))
theorem bad_r2 {v p q r : Int32} (hb : ¬ (g 0 27).toInt = 0) : Al (tR2 v p q r g) (fun o => o.2 = g) := by
  unfold tR2
  rw [if_neg hb]
  exact al_mono r3_ok fun o h => h.1
theorem bad_r1 {v p q : Int32} (hb : ¬ (g 0 27).toInt = 0) : Al (tR1 v p q g) (fun o => o.2 = g) := by
  unfold tR1
  rw [if_neg hb]
  exact bad_r2 hb
theorem bad_r0 {v p : Int32} (hb : ¬ (g 0 27).toInt = 0) : Al (tR0 v p g) (fun o => o.2 = g) := by
  unfold tR0
  rw [if_neg hb]
  exact bad_r1 hb
/-- a part behind a fault -/
theorem bad_part {kk : Nat} {ky pt : Int32} (hky : ¬ ky.toInt = 301) (hpt : pt.toInt = kk) (b : Bad g h) : Al (f_X1_readPart ky pt g) (fun f => Bad f h ∧ pE kk f g) := by
  unfold f_X1_readPart
  refine al_oV' (fun g1 h1 => al_oV' (fun g2 h2 => al_oV' (fun g3 h3 => al_oV' (fun g4 h4 => al_some ?_))))
  have st0 := cbad_expect b.cb hky g1 h1
  have b1 := b.stay st0
  have st1 := cbad_read recF 0 0 g1 (by decide) (by decide) b1.cb g2 h2
  have bd2 := b1.stay st1
  have st2 := cbad_expect bd2.cb (by decide) g3 h3
  obtain ⟨b4, p4⟩ := bad_end hpt (bd2.stay st2) h4
  exact ⟨b4, p4.trans (st2.1.pF.pE.trans (st1.1.pF.pE.trans st0.1.pF.pE))⟩
def cEnd (g : dH) : Option (Int32 × dH) := if (g 42 3).toInt = 300 then (some ((g 42 4), g)) else (oV (f_X1_fail g) (fun g12 => some ((g12 42 4), g12)))
theorem bad_cend (b : Bad g h) : Al (cEnd g) (fun o => rdS o.2 g ∧ ¬ o.1.toInt = -1 ∧ (h 0 28).toInt = o.1.toInt) := by
  unfold cEnd
  have b3 := b.2.2.2
  rw [if_neg (by omega)]
  refine al_oV' (fun g1 h1 => al_some ?_)
  have st := cbad_fail b.cb g1 h1
  obtain ⟨x1, x2, x3, x4⟩ := b.stay st
  exact ⟨st.1, x1, x3⟩
/-- all but what a text's reading writes -/
def pR (ta : Nat) (f g : dH) : Prop := ∀ a k, ¬ (a = 42 ∧ 1 ≤ k ∧ k ≤ 4) → ¬ (a = 1 ∧ k = 5) → ¬ (2 ≤ a ∧ a ≤ 4) → ¬ (a = ta ∧ k = 1) → ¬ a = ta + 1 → ¬ a = ta + 2 → f a k = g a k
theorem pR.trans {ta : Nat} {f g h : dH} (q : pR ta f g) (r : pR ta g h) : pR ta f h := fun a k a1 a2 a3 a4 a5 a6 => (q a k a1 a2 a3 a4 a5 a6).trans (r a k a1 a2 a3 a4 a5 a6)
theorem pE.pR {kk ta : Nat} {f g : dH} (q : pE kk f g) (e : rT g = ta) : pR ta f g := fun a k a1 a2 a3 a4 a5 a6 => q a k (by omega) (by rw [e]; exact a4) (by rw [e]; exact a5) (by rw [e]; omega)
theorem rdS.pR {ta : Nat} {f g : dH} (q : rdS f g) : pR ta f g := fun a k a1 a2 a3 a4 a5 a6 => q a k (by omega)
variable (B N P n) in
/-- the three parts and the end, on both sides -/
theorem parts_both {ta : Nat} (hta : rT g = ta) (hz : rZ g = 0) {v2 : Int32} (hs : St B N P n 0 0 g h) : Al (oV (f_X1_readPart 304 0 g) (fun g7 => oV (f_X1_readPart 305 1 g7) (fun g8 => oV (f_X1_readPart 306 2 g8) (fun g9 => cEnd g9)))) (fun f => ∀ o, oP (f_X7_isWord 109 101 101 116 115 0 0 0 h) (fun w => oI (f_X7_part w h) (fun p k => tR0 v2 p k)) = some o → pR ta f.2 g ∧ mSame o.2 h ∧ ((f.1.toInt = -1 ∧ (o.2 0 27).toInt = 0 ∧ tOk f.2 ta ∧ ∀ pt : Nat, pt < 3 → v2.toInt = pt → tEv f.2 ta (nmF h) pt = some [o.1]) ∨ (¬ f.1.toInt = -1 ∧ ¬ (o.2 0 27).toInt = 0 ∧ (o.2 0 28).toInt = f.1.toInt))) := by
  refine al_oV' (fun g7 h7 => al_oV' (fun g8 h8 => al_oV' (fun g9 h9 => ?_)))
  intro f hf
  refine al_oP (fun w1 hw1 => al_oI (fun p k1 hk1 => ?_))
  have P1 := part_both (kk := 0) (by omega) (by decide) (by decide) hs (fun c s e w G => G.key (k := 0) (by omega) (by decide) w1 hw1) g7 h7 (p, k1) hk1
  obtain ⟨a1, a2, a3, a4⟩ := P1
  simp only at a2 a3 a4
  have t7 : rT g7 = ta := a1.tx.trans hta
  rcases a4 with bd | ⟨i1, S1, l1, z1, em1, en1⟩
  · obtain ⟨bd8, p8⟩ := bad_part (by decide) (kk := 1) (by decide) bd g8 h8
    obtain ⟨bd9, p9⟩ := bad_part (by decide) (kk := 2) (by decide) bd8 g9 h9
    obtain ⟨x1, x2, x3⟩ := bad_cend bd9 f hf
    intro o ho
    have eo := bad_r0 bd.2.1 o ho
    rw [eo]
    exact ⟨x1.pR.trans ((p9.pR (p8.tx.trans t7)).trans ((p8.pR t7).trans (a1.pR hta))), a2, Or.inr ⟨x2, bd.2.1, x3⟩⟩
  · have b1 : (k1 0 27).toInt = 0 := by
      obtain ⟨c, s, e, w, G⟩ := S1.1
      exact G.2.2.2.2.2.2.1
    unfold tR0
    rw [if_pos b1]
    refine al_oP (fun w2 hw2 => al_oI (fun q k2 hk2 => ?_))
    obtain ⟨c1, c2, c3, c4⟩ := part_both (kk := 1) (by omega) (by decide) (by decide) S1 (fun c s e w G => G.key (k := 1) (by omega) (by decide) w2 hw2) g8 h8 (q, k2) hk2
    simp only at c2 c3 c4
    have t8 : rT g8 = ta := c1.tx.trans t7
    rcases c4 with bd | ⟨i2, S2, l2, z2, em2, en2⟩
    · obtain ⟨bd9, p9⟩ := bad_part (by decide) (kk := 2) (by decide) bd g9 h9
      obtain ⟨x1, x2, x3⟩ := bad_cend bd9 f hf
      intro o ho
      have eo := bad_r1 bd.2.1 o ho
      rw [eo]
      exact ⟨x1.pR.trans ((p9.pR t8).trans ((c1.pR t7).trans (a1.pR hta))), c2.trans a2, Or.inr ⟨x2, bd.2.1, x3⟩⟩
    · have b2 : (k2 0 27).toInt = 0 := by
        obtain ⟨c, s, e, w, G⟩ := S2.1
        exact G.2.2.2.2.2.2.1
      unfold tR1
      rw [if_pos b2]
      refine al_oP (fun w3 hw3 => al_oI (fun r k3 hk3 => ?_))
      obtain ⟨d1, d2, d3, d4⟩ := part_both (kk := 2) (by omega) (by decide) (by decide) S2 (fun c s e w G => G.key (k := 2) (by omega) (by decide) w3 hw3) g9 h9 (r, k3) hk3
      simp only at d2 d3 d4
      have t9 : rT g9 = ta := d1.tx.trans t8
      rcases d4 with bd | ⟨i3, S3, l3, z3, em3, en3⟩
      · obtain ⟨x1, x2, x3⟩ := bad_cend bd f hf
        intro o ho
        have eo := bad_r2 bd.2.1 o ho
        rw [eo]
        exact ⟨x1.pR.trans ((d1.pR t8).trans ((c1.pR t7).trans (a1.pR hta))), d2.trans (c2.trans a2), Or.inr ⟨x2, bd.2.1, x3⟩⟩
      · obtain ⟨⟨c, s, e, w, G⟩, y1, y2, y26⟩ := id S3
        have G23 := G.2.2.2.2.2.2.2.2.2.1
        have b4 := G.2.2.2.2.2.1
        have b3 := G.2.2.2.2.2.2.1
        have m2 := G.2.2.2.2.2.2.2.2.2.2.2.2.2.1.2
        have pg : pR ta g9 g := (d1.pR t8).trans ((c1.pR t7).trans (a1.pR hta))
        have ms : mSame k3 h := d2.trans (c2.trans a2)
        have zt := rT_or g
        rw [hta] at zt
        unfold cEnd at hf
        unfold tR2
        rw [if_pos b3]
        by_cases c300 : c = 300
        · rw [if_pos (by omega)] at hf
          cases hf
          rw [if_pos (by unfold isSg at m2; omega)]
          intro o ho
          obtain ⟨e2, e3, e4, e5⟩ := r3_ok o ho
          rw [e2]
          refine ⟨pg, ms, Or.inl ⟨b4, b3, ?_⟩⟩
          -- the ends
          have n1 : nmF k1 = nmF h := a2.nm
          have n2 : nmF k2 = nmF h := (c2.trans a2).nm
          obtain ⟨p1, p2, p3⟩ := em1
          obtain ⟨q1, q2, q3⟩ := em2
          obtain ⟨r1, r2, r3⟩ := em3
          rw [n1] at q3
          rw [n2] at r3
          have in3 := G.2.2.2.2.2.2.2.1
          have tn := G.1.2.1
          have s7 : 0 ≤ (g7 ta 1).toInt := by
            have := S1.2.2.1
            rw [t7] at this
            exact this
          have s8 : 0 ≤ (g8 ta 1).toInt := by
            have := S2.2.2.1
            rw [t8] at this
            exact this
          have s9 : 0 ≤ (g9 ta 1).toInt := by
            have := S3.2.2.1
            rw [t9] at this
            exact this
          have Z7 : rZ g7 = (g7 ta 1).toInt.toNat := by unfold rZ; rw [t7]
          have Z8 : rZ g8 = (g8 ta 1).toInt.toNat := by unfold rZ; rw [t8]
          have Z9 : rZ g9 = (g9 ta 1).toInt.toNat := by unfold rZ; rw [t9]
          have E0 : g9 (ta + 2) 0 = g7 ta 1 := by
            rw [d1 _ _ (by omega) (by rw [t8]; omega) (by rw [t8]; omega) (by omega), c1 _ _ (by omega) (by rw [t7]; omega) (by rw [t7]; omega) (by omega)]
            rw [hta] at en1
            exact en1
          have E1 : g9 (ta + 2) 1 = g8 ta 1 := by
            rw [d1 _ _ (by omega) (by rw [t8]; omega) (by rw [t8]; omega) (by omega)]
            rw [t7] at en2
            exact en2
          have E2 : g9 (ta + 2) 2 = g9 ta 1 := by
            rw [t8] at en3
            exact en3
          have S7 : rS g7 = g7 (ta + 1) := by unfold rS; rw [t7]
          have S8 : rS g8 = g8 (ta + 1) := by unfold rS; rw [t8]
          have S9 : rS g9 = g9 (ta + 1) := by unfold rS; rw [t9]
          have x0 : tA g9 ta 0 = 0 := rfl
          have x1 : tA g9 ta 1 = rZ g7 := by unfold tA; rw [if_neg (by omega), E0, Z7]
          have x2 : tA g9 ta 2 = rZ g8 := by unfold tA; rw [if_neg (by omega), E1, Z8]
          have w0 : tB g9 ta 0 = rZ g7 := by unfold tB; rw [E0, Z7]
          have w1 : tB g9 ta 1 = rZ g8 := by unfold tB; rw [E1, Z8]
          have w2 : tB g9 ta 2 = rZ g9 := by unfold tB; rw [E2, Z9]
          show tOk g9 ta ∧ (∀ pt : Nat, pt < 3 → v2.toInt = pt → tEv g9 ta (nmF h) pt = some [o.1])
          refine ⟨fun pt hpt => ?_, fun pt hpt hv => ?_⟩
          · have : pt = 0 ∨ pt = 1 ∨ pt = 2 := by omega
            rcases this with rfl | rfl | rfl
            · rw [x0, w0, E0]; omega
            · rw [x1, w1, E1]; omega
            · rw [x2, w2, E2]; omega
          · have : pt = 0 ∨ pt = 1 ∨ pt = 2 := by omega
            unfold tEv
            rcases this with rfl | rfl | rfl
            · rw [x0, w0, e3 (by omega), ← S9, exR_congr (g := rS g7) _ _ _ (fun j j1 j2 => (r2 j (by omega)).trans (q2 j (by omega)))]
              have := p3 [] (by decide)
              rw [hz] at this
              exact this
            · rw [x1, w1, e4 (by omega), ← S9, exR_congr (g := rS g8) _ _ _ (fun j j1 j2 => r2 j (by omega))]
              exact q3 [] (by decide)
            · rw [x2, w2, e5 (by omega), ← S9]
              exact r3 [] (by decide)
        · rw [if_neg (by omega)] at hf
          rw [if_neg (by unfold isSg at m2; omega)]
          refine al_oV' (fun k4 hk4 => ?_)
          revert f
          refine al_oV' (fun g12 h12 => al_some ?_)
          obtain ⟨b1', b2', b3', b5'⟩ := G.fail h12 hk4
          intro o ho
          obtain ⟨e2, -⟩ := r3_ok o ho
          rw [e2]
          exact ⟨b2'.pR.trans pg, b3'.trans ms, Or.inr ⟨b1'.1, b1'.2.1, b1'.2.2.1⟩⟩
end PR
/-- a text's bytes -/
def mTx (h : dH) (t : Nat) (B : Nat → Int) (N : Nat) : Prop := (h 2 t).toInt = N ∧ ∀ j, j < N → (h 1 (160 * t + j)).toInt = B j
/-- the reference's heap behind its reading -/
def mRd (g h : dH) : Prop := (∀ a k, ¬ a = 0 → g a k = h a k) ∧ ∀ k, ¬ (20 ≤ k ∧ k ≤ 28) → g 0 k = h 0 k
theorem read_both {ta t : Nat} (hta : zT ta) (ht : t < 6) {v1 : Int32} (hv1 : v1.toInt = t) {g : dH} (c0 : 0 ≤ (g 1 0).toInt) (c1 : (g 1 0).toInt ≤ 160) (cb : ∀ j, j < cN g → 0 ≤ cB g j ∧ cB g j ≤ 255) : Al (f_X1_readInto ta g) (fun f => ∀ (h : dH) (v2 : Int32) (o : Int32 × dH), mTx h t (cB g) (cN g) → f_X7_read v1 v2 h = some o → pR ta f.2 g ∧ mRd o.2 h ∧ ((f.1.toInt = -1 ∧ (o.2 0 27).toInt = 0 ∧ tOk f.2 ta ∧ ∀ pt : Nat, pt < 3 → v2.toInt = pt → tEv f.2 ta (nmF h) pt = some [o.1]) ∨ (¬ f.1.toInt = -1 ∧ ¬ (o.2 0 27).toInt = 0 ∧ (o.2 0 28).toInt = f.1.toInt))) := by
  have zt : ta = 10 ∨ ta = 14 ∨ ta = 18 ∨ ta = 22 ∨ ta = 26 ∨ ta = 30 := hta
  unfold f_X1_readInto
  refine al_oH' (fun g1 h1 => al_oV' (fun g2 h2 => al_oV' (fun g3 h3 => al_oH' (fun g4 h4 => al_oH' (fun g5 h5 => al_oH' (fun g6 h6 => ?_))))))
  have e42 : g1 42 1 = dti ta := by rw [h1]; exact dU_eq
  rw [e42, dtx_dti hta] at h2
  have h2' : g2 = dU g1 ta 1 0 := by
    unfold f_X5_clear at h2
    exact (Option.some.inj h2).symm
  have k2 : ∀ a k, ¬ (a = 42 ∧ k = 1) → ¬ (a = ta ∧ k = 1) → g2 a k = g a k := fun a k q1 q2 => by rw [h2', dU_ne q2, h1, dU_ne q1]
  have B2 : cB g2 = cB g := by funext j; unfold cB; rw [k2 5 j (by omega) (by omega)]
  have N2 : cN g2 = cN g := by unfold cN; rw [k2 1 0 (by omega) (by omega)]
  obtain ⟨F3, P, n, T3⟩ := cut_ok (h := g2) (by rw [k2 1 0 (by omega) (by omega)]; exact c0) (by rw [k2 1 0 (by omega) (by omega)]; exact c1) (by rw [N2, B2]; exact cb) g3 h3
  rw [B2, N2] at T3
  have k6 : ∀ a k, ¬ (a = 42 ∧ 2 ≤ k ∧ k ≤ 4) → g6 a k = g3 a k := fun a k q => by rw [h6, dU_ne (by omega), h5, dU_ne (by omega), h4, dU_ne (by omega)]
  have T6 : Toks (cB g) (cN g) P n g6 := T3.same (fun a k q => k6 a k (by omega))
  have x421 : g6 42 1 = dti ta := by
    rw [k6 42 1 (by omega), F3 42 1 (by omega) (by omega) (by omega) (by omega), h2', dU_ne (by omega), e42]
  have hrT : rT g6 = ta := by unfold rT; rw [x421, dtx_dti hta]
  have hsz : g6 ta 1 = 0 := by rw [k6 ta 1 (by omega), F3 ta 1 (by omega) (by omega) (by omega) (by omega), h2', dU_eq]
  have hz : rZ g6 = 0 := by unfold rZ; rw [hrT, hsz]; decide
  have pg : pR ta g6 g := fun a k a1 a2 a3 a4 a5 a6 => by
    rw [k6 a k (by omega), F3 a k a2 (by omega) (by omega) (by omega), k2 a k (by omega) a4]
  have y2 : (g6 42 2).toInt = 0 := by rw [h6, dU_ne (by omega), h5, dU_ne (by omega), h4, dU_eq]; decide
  have y3 : g6 42 3 = g6 2 0 := by rw [h6, dU_ne (by omega), h5, dU_eq, dU_ne (by omega), dU_ne (by omega)]
  have y4 : (g6 42 4).toInt = -1 := by rw [h6, dU_eq]; decide
  intro f hf
  have hf' : oV (f_X1_readPart 304 0 g6) (fun g7 => oV (f_X1_readPart 305 1 g7) (fun g8 => oV (f_X1_readPart 306 2 g8) (fun g9 => cEnd g9))) = some f := hf
  clear hf
  intro h v2 o hm ho
  rw [read_t] at ho
  unfold tRead at ho
  revert o
  have e160 : (160 * v1).toInt = 160 * (t : Int) := i_mul (by decide) hv1 (by omega) (by omega)
  have cNle : (cN g : Int) ≤ 160 := by unfold cN; omega
  refine al_oH' (fun m1 q1 => al_ite (fun _ => al_oH' (fun m3 q3 => al_oH' (fun m4 q4 => al_oH' (fun m5 q5 => al_oH' (fun m6 q6 => al_oV' (fun m7 q7 => ?_)))))) (fun _ => al_none))
  have et : v1.toInt.toNat = t := by omega
  rw [et] at q3
  have r6 : mRd m6 h := by
    refine ⟨fun a k q => ?_, fun k q => ?_⟩
    · rw [q6, dU_ne (by omega), q5, dU_ne (by omega), q4, dU_ne (by omega), q3, dU_ne (by omega), q1, dU_ne (by omega)]
    · rw [q6, dU_ne (by omega), q5, dU_ne (by omega), q4, dU_ne (by omega), q3, dU_ne (by omega), q1, dU_ne (by omega)]
  have m20 : (m6 0 20).toInt = 160 * (t : Int) := by
    rw [q6, dU_ne (by omega), q5, dU_ne (by omega), q4, dU_ne (by omega), q3, dU_ne (by omega), q1, dU_eq]; exact e160
  have m21 : (m6 0 21).toInt = cN g := by
    rw [q6, dU_ne (by omega), q5, dU_ne (by omega), q4, dU_ne (by omega), q3, dU_eq, q1, dU_ne (by omega)]; exact hm.1
  have m22 : (m6 0 22).toInt = 0 := by rw [q6, dU_ne (by omega), q5, dU_ne (by omega), q4, dU_eq]; decide
  have m26 : (m6 0 26).toInt = 0 := by rw [q6, dU_ne (by omega), q5, dU_eq]; decide
  have m27 : (m6 0 27).toInt = 0 := by rw [q6, dU_eq]; decide
  have ok6 : mOk m6 := by unfold mOk; rw [m20, m21]; omega
  have hB6 : ∀ j, j < cN g → cB g j = mB m6 j := fun j hj => by
    unfold mB
    rw [r6.1 1 _ (by omega), m20, show (160 * (t : Int)).toNat = 160 * t by omega]
    exact (hm.2 j hj).symm
  obtain ⟨⟨c, s, e, w, G⟩, ms, k26⟩ := Good.first (T6.congr hB6) ok6 rfl (by rw [m21]; omega) (fun j hj => by rw [← hB6 j hj]; exact cb j hj) y4 m27 m22 y2 y3 q7
  have S0 : St (mB m6) (cN g) P n 0 0 g6 m7 := ⟨⟨c, s, e, w, G⟩, by omega, by rw [hrT, hsz]; decide, by rw [k26]; exact m26⟩
  intro o ho
  obtain ⟨u1, u2, u3⟩ := parts_both _ _ _ _ hrT hz S0 f hf' o ho
  have nm : nmF m7 = nmF h := by
    rw [ms.nm]
    funext k
    unfold nmF
    by_cases hk : k < 6
    · rw [if_pos hk, if_pos hk]; exact r6.2 _ (by omega)
    · rw [if_neg hk, if_neg hk]
  rw [nm] at u3
  have ms2 := u2.trans ms
  exact ⟨u1.trans pg, ⟨fun a k q => (ms2.1 a k q).trans (r6.1 a k q), fun k q => (ms2.2 k (by omega)).trans (r6.2 k q)⟩, u3⟩
end
end

section
/-! what a text's part tells, on the class's pile -/
noncomputable section
def pileL (h : dH) (p : Nat) : Nat → List Int32
  | 0 => []
  | m + 1 => h p m :: pileL h p m
theorem pileL_len (h : dH) (p : Nat) : ∀ m, (pileL h p m).length = m
  | 0 => rfl
  | m + 1 => by rw [pileL, List.length_cons, pileL_len h p m]
theorem pileL_up {h : dH} {p j : Nat} {x : Int32} : ∀ m, m ≤ j → pileL (dU h p j x) p m = pileL h p m
  | 0, _ => rfl
  | m + 1, hm => by rw [pileL, pileL, pileL_up m (by omega), dU_ne (by omega)]
theorem pileL_push {h : dH} {p j : Nat} {x : Int32} : pileL (dU h p j x) p (j + 1) = x :: pileL h p j := by
  rw [pileL, pileL_up j (Nat.le_refl _), dU_eq]
theorem jn_or {x a b : Int32} (h : x.toInt = -7) : jnd x a b = if ¬ a.toInt = 0 ∨ ¬ b.toInt = 0 then 1 else 0 := if_pos h
theorem jn_and {x a b : Int32} (h : x.toInt = -8) : jnd x a b = if ¬ a.toInt = 0 ∧ ¬ b.toInt = 0 then 1 else 0 := (if_neg (by omega)).trans (if_pos h)
theorem jn_less {x a b : Int32} (h : x.toInt = -9) : jnd x a b = if a.toInt < b.toInt then 1 else 0 := (if_neg (by omega)).trans ((if_neg (by omega)).trans (if_pos h))
theorem jn_same {x a b : Int32} (h : x.toInt = -10) : jnd x a b = if a.toInt = b.toInt then 1 else 0 := (if_neg (by omega)).trans ((if_neg (by omega)).trans ((if_neg (by omega)).trans (if_pos h)))
theorem jn_add {x a b : Int32} (h : x.toInt = -11) : jnd x a b = a + b := (if_neg (by omega)).trans ((if_neg (by omega)).trans ((if_neg (by omega)).trans ((if_neg (by omega)).trans (if_pos h))))
theorem jn_sub {x a b : Int32} (h : x.toInt = -12) : jnd x a b = a - b := (if_neg (by omega)).trans ((if_neg (by omega)).trans ((if_neg (by omega)).trans ((if_neg (by omega)).trans ((if_neg (by omega)).trans (if_pos h)))))
theorem jn_mul {x a b : Int32} (h7 : ¬ x.toInt = -7) (h8 : ¬ x.toInt = -8) (h9 : ¬ x.toInt = -9) (h10 : ¬ x.toInt = -10) (h11 : ¬ x.toInt = -11) (h12 : ¬ x.toInt = -12) : jnd x a b = a * b := (if_neg h7).trans ((if_neg h8).trans ((if_neg h9).trans ((if_neg h10).trans ((if_neg h11).trans (if_neg h12)))))
theorem joined_ok {x a b : Int32} : Al (f_X5_joined x a b) (fun r => r = jnd x a b) := by
  unfold f_X5_joined
  refine al_ite (fun c => al_some (jn_sub c).symm) (fun c1 => al_ite (fun c => al_some (jn_add c).symm) (fun c2 => al_ite (fun c => ?_) (fun c3 => al_ite (fun c => ?_) (fun c4 => al_ite (fun c => ?_) (fun c5 => al_ite (fun c => ?_) (fun c6 => al_some (jn_mul c6 c5 c4 c3 c2 c1).symm))))))
  · exact al_ite (fun z => al_some ((jn_same c).trans (if_pos z)).symm) (fun z => al_some ((jn_same c).trans (if_neg z)).symm)
  · exact al_ite (fun z => al_some ((jn_less c).trans (if_pos z)).symm) (fun z => al_some ((jn_less c).trans (if_neg z)).symm)
  · exact al_ite (fun z => al_some ((jn_and c).trans (if_neg (by omega))).symm) (fun z => al_ite (fun y => al_some ((jn_and c).trans (if_neg (by omega))).symm) (fun y => al_some ((jn_and c).trans (if_pos ⟨z, y⟩)).symm))
  · exact al_ite (fun z => al_ite (fun y => al_some ((jn_or c).trans (if_neg (by omega))).symm) (fun y => al_some ((jn_or c).trans (if_pos (Or.inr y))).symm)) (fun z => al_some ((jn_or c).trans (if_pos (Or.inl z))).symm)
theorem tr_neg {x a : Int32} (h : x.toInt = -15) : trn x a = -a := if_pos h
theorem tr_not {x a : Int32} (h : ¬ x.toInt = -15) : trn x a = if a.toInt = 0 then 1 else 0 := if_neg h
theorem turned_ok {x a : Int32} : Al (f_X5_turned x a) (fun r => r = trn x a) := by
  unfold f_X5_turned
  exact al_ite (fun c => al_some (tr_neg c).symm) (fun c => al_ite (fun z => al_some ((tr_not c).trans (if_pos z)).symm) (fun z => al_some ((tr_not c).trans (if_neg z)).symm))
def w60 (v : Int32) : Int32 := if v.toInt < 0 then 0 else if 60 < v.toInt then 60 else v
theorem w60_min (v : Int32) : dmax 0 (dmin 60 v) = w60 v := by
  unfold dmax dmin w60
  have e60 : (60 : Int32).toInt = 60 := by decide
  have lt : ∀ a b : Int32, a < b ↔ a.toInt < b.toInt := fun a b => Int32.lt_iff_toInt_lt
  by_cases h : v < 60
  · rw [if_pos h]
    have h' := (lt _ _).mp h
    rw [e60] at h'
    by_cases z : 0 < v
    · have z' := (lt _ _).mp z
      rw [ti0] at z'
      rw [if_pos z, if_neg (by omega), if_neg (by omega)]
    · have z' : ¬ (0 : Int32).toInt < v.toInt := fun q => z ((lt _ _).mpr q)
      rw [ti0] at z'
      rw [if_neg z]
      by_cases y : v.toInt < 0
      · rw [if_pos y]
      · rw [if_neg y, if_neg (by omega)]
        apply Int32.toInt_inj.mp
        rw [ti0]; omega
  · have h' : ¬ v.toInt < (60 : Int32).toInt := fun q => h ((lt _ _).mpr q)
    rw [e60] at h'
    rw [if_neg h, if_pos (by decide), if_neg (by omega)]
    by_cases y : 60 < v.toInt
    · rw [if_pos y]
    · rw [if_neg y]
      apply Int32.toInt_inj.mp
      rw [e60]; omega
theorem w60_rng (v : Int32) : 0 ≤ (w60 v).toInt ∧ (w60 v).toInt ≤ 60 := by
  unfold w60
  by_cases h : v.toInt < 0
  · rw [if_pos h]; decide
  · rw [if_neg h]
    by_cases z : 60 < v.toInt
    · rw [if_pos z]; decide
    · rw [if_neg z]; omega
def evF (f : dH) (ta pt : Nat) (nm : Nat → Int32) : Int32 := match tEv f ta nm pt with
  | some (v :: _) => w60 v
  | _ => 0
theorem evF_rng (f : dH) (ta pt : Nat) (nm : Nat → Int32) : 0 ≤ (evF f ta pt nm).toInt ∧ (evF f ta pt nm).toInt ≤ 60 := by
  unfold evF
  cases tEv f ta nm pt with
  | none => decide
  | some l => cases l with
    | nil => decide
    | cons v r => exact w60_rng v
theorem evF_of {f : dH} {ta pt : Nat} {nm : Nat → Int32} {v : Int32} (h : tEv f ta nm pt = some [v]) : evF f ta pt nm = w60 v := by
  unfold evF
  rw [h]
/-- all but a pile -/
def pS (p : Nat) (g h : dH) : Prop := ∀ a k, ¬ a = p → g a k = h a k
theorem value_loop {ta a2 pt : Nat} {v1 : Int32} {nm : Nat → Int32} {v : Int32} {k : Int32 → dH → Option (Int32 × dH)} {P : Int32 × dH → Prop} (zt : zT ta) (hpt : v1.toInt = pt) (hpt3 : pt < 3) (ha2 : ¬ a2 = ta + 3) : ∀ (n : Nat) (v4 v5 : Int32) (h : dH), 0 ≤ v4.toInt → v4.toInt ≤ 40 → 0 ≤ v5.toInt → v5.toInt ≤ (h (ta + 2) pt).toInt → (h (ta + 2) pt).toInt ≤ 160 → (∀ k, k < 6 → h a2 k = nm k) → exR nm (h (ta + 1)) ((h (ta + 2) pt).toInt.toNat - v5.toInt.toNat) v5.toInt.toNat (pileL h (ta + 3) v4.toInt.toNat) = some [v] → (∀ (w : Int32) (g : dH), pS (ta + 3) g h → 0 ≤ w.toInt → pileL g (ta + 3) w.toInt.toNat = [v] → Al (k w g) P) → Al (l_X5_value_23 ta v1 a2 k n v4 v5 h) P
  | 0, _, _, _, _, _, _, _, _, _, _, _ => al_none
  | n + 1, v4, v5, h, p0, p1, i0, i1, i2, hnm, hex, K => by
    rw [l_X5_value_23]
    have e1 : v1.toInt.toNat = pt := by omega
    rw [e1]
    have t5 : v5.toInt < 160 → (v5 + 1).toInt = v5.toInt + 1 := fun z => i_add rfl (by decide) (by omega) (by omega)
    refine al_ite (fun _ => al_ite (fun c1 => al_ite (fun _ => ?_) (fun _ => al_none)) (fun c1 => ?_)) (fun _ => al_none)
    · have hm : (h (ta + 2) pt).toInt.toNat - v5.toInt.toNat = ((h (ta + 2) pt).toInt.toNat - (v5 + 1).toInt.toNat) + 1 := by rw [t5 (by omega)]; omega
      have hi : v5.toInt.toNat + 1 = (v5 + 1).toInt.toNat := by rw [t5 (by omega)]; omega
      rw [hm, exR, hi] at hex
      generalize hx : h (ta + 1) v5.toInt.toNat = x at hex ⊢
      cases he : ex1 nm x (pileL h (ta + 3) v4.toInt.toNat) with
      | none => rw [he] at hex; cases hex
      | some s1 =>
        rw [he] at hex
        simp only at hex
        -- one step further
        have go : ∀ (u4 : Int32) (g : dH), pS (ta + 3) g h → 0 ≤ u4.toInt → u4.toInt ≤ 40 → pileL g (ta + 3) u4.toInt.toNat = s1 → Al (l_X5_value_23 ta v1 a2 k n u4 (v5 + 1) g) P := by
          intro u4 g hg q0 q1 hs
          have g2 : g (ta + 2) pt = h (ta + 2) pt := hg _ _ (by omega)
          have g1 : g (ta + 1) = h (ta + 1) := by funext j; exact hg _ _ (by omega)
          refine value_loop (nm := nm) zt hpt hpt3 ha2 n u4 (v5 + 1) g q0 q1 (by rw [t5 (by omega)]; omega) (by rw [t5 (by omega), g2]; omega) (by rw [g2]; exact i2) (fun k hk => by rw [hg _ _ ha2]; exact hnm k hk) ?_ (fun w g' w1 w2 w3 => K w g' (fun a k q => (w1 a k q).trans (hg a k q)) w2 w3)
          rw [g1, g2, hs]
          exact hex
        unfold ex1 at he
        generalize hu : v4 + (-1) = u
        generalize hw : (-1 : Int32) - x = w9
        refine al_ite (fun c2 => al_ite (fun c3 => ?_) (fun c3 => ?_)) (fun c2 => ?_)
        · rw [if_neg (by omega), if_neg (by omega)] at he
          have tm : u.toInt = v4.toInt - 1 := by
            have tt := i_add (a := v4) (b := -1) (B := -1) rfl (by decide) (by omega) (by omega)
            rw [hu] at tt
            omega
          have tm2 : 1 ≤ v4.toInt → (u - 1).toInt = v4.toInt - 2 := fun z => by
            have tt := i_sub (a := u) (b := 1) tm (by decide) (B := 1) (by omega) (by omega)
            rw [tt]; omega
          refine al_ite (fun c4 => al_ite (fun _ => al_ite (fun _ => al_oP (fun r hr => al_ite (fun _ => al_oH' (fun g hg => ?_)) (fun _ => al_none))) (fun _ => al_none)) (fun _ => al_none)) (fun c4 => ?_)
          · obtain ⟨m, hm4⟩ : ∃ m : Nat, v4.toInt.toNat = m + 2 := ⟨v4.toInt.toNat - 2, by omega⟩
            have eu : u.toInt.toNat = m + 1 := by omega
            have eu2 : (u - 1).toInt.toNat = m := by rw [tm2 (by omega)]; omega
            rw [eu, eu2] at hr
            rw [eu2] at hg
            rw [hm4, pileL, pileL] at he
            simp only at he
            have hj := joined_ok r hr
            refine go u g (by rw [hg]; exact fun a k q => dU_ne (fun e => q e.1)) (by omega) (by omega) ?_
            rw [eu, hg, pileL_push, hj]
            exact Option.some.inj he
          · exfalso
            have : v4.toInt.toNat = 0 ∨ v4.toInt.toNat = 1 := by omega
            rcases this with z | z <;> rw [z] at he <;> cases he
        · rw [if_neg (by omega), if_pos (by omega)] at he
          have tm : 0 < v4.toInt → (v4 - 1).toInt = v4.toInt - 1 := fun z => i_sub rfl (by decide) (by omega) (by omega)
          refine al_ite (fun c4 => al_ite (fun _ => al_oP (fun r hr => al_ite (fun _ => al_oH' (fun g hg => ?_)) (fun _ => al_none))) (fun _ => al_none)) (fun c4 => ?_)
          · obtain ⟨m, hm4⟩ : ∃ m : Nat, v4.toInt.toNat = m + 1 := ⟨v4.toInt.toNat - 1, by omega⟩
            have eu : (v4 - 1).toInt.toNat = m := by rw [tm c4]; omega
            rw [eu] at hr hg
            rw [hm4, pileL] at he
            simp only at he
            have hj := turned_ok r hr
            refine go v4 g (by rw [hg]; exact fun a k q => dU_ne (fun e => q e.1)) (by omega) (by omega) ?_
            rw [hm4, hg, pileL_push, hj]
            exact Option.some.inj he
          · exfalso
            have z : v4.toInt.toNat = 0 := by omega
            rw [z] at he
            cases he
        · rw [if_pos (by omega), pileL_len] at he
          by_cases c4 : v4.toInt.toNat < 40
          · rw [if_pos c4] at he
            have t4 : (v4 + 1).toInt = v4.toInt + 1 := i_add rfl (by decide) (by omega) (by omega)
            have e4 : (v4 + 1).toInt.toNat = v4.toInt.toNat + 1 := by omega
            refine al_ite (fun _ => al_ite (fun c5 => al_ite (fun _ => al_ite (fun _ => al_oH' (fun g hg => ?_)) (fun _ => al_none)) (fun _ => al_none)) (fun c5 => al_ite (fun _ => al_oH' (fun g hg => ?_)) (fun _ => al_none))) (fun z => absurd c4 (by omega))
            · have tx : w9.toInt = -1 - x.toInt := by
                have tt := i_sub (a := -1) (b := x) (A := -1) (B := x.toInt) (by decide) rfl (by omega) (by omega)
                rw [hw] at tt
                exact tt
              rw [if_neg (by omega)] at he
              refine go (v4 + 1) g (by rw [hg]; exact fun a k q => dU_ne (fun e => q e.1)) (by omega) (by omega) ?_
              rw [e4, hg, pileL_push, hnm _ (by omega), tx]
              exact Option.some.inj he
            · rw [if_pos (by omega)] at he
              refine go (v4 + 1) g (by rw [hg]; exact fun a k q => dU_ne (fun e => q e.1)) (by omega) (by omega) ?_
              rw [e4, hg, pileL_push]
              exact Option.some.inj he
          · rw [if_neg c4] at he
            cases he
    · have z : (h (ta + 2) pt).toInt.toNat - v5.toInt.toNat = 0 := by omega
      rw [z] at hex
      exact K v4 h (fun _ _ _ => rfl) p0 (Option.some.inj hex)
theorem value_ok {ta a2 pt : Nat} {v1 : Int32} {nm : Nat → Int32} {h : dH} (zt : zT ta) (hpt : v1.toInt = pt) (hpt3 : pt < 3) (ha2 : ¬ a2 = ta + 3) (hok : tOk h ta) (hnm : ∀ k, k < 6 → h a2 k = nm k) (hev : ∃ v, tEv h ta nm pt = some [v]) : Al (f_X5_value ta v1 a2 h) (fun o => o.1 = evF h ta pt nm ∧ pS (ta + 3) o.2 h) := by
  obtain ⟨v, hv⟩ := hev
  rw [evF_of hv]
  obtain ⟨o1, o2, o3⟩ := hok pt hpt3
  unfold tEv at hv
  unfold f_X5_value
  have fin : ∀ (w : Int32) (g : dH), pS (ta + 3) g h → 0 ≤ w.toInt → pileL g (ta + 3) w.toInt.toNat = [v] → Al (if 0 < w.toInt then (some ((dmax 0 (dmin 60 (g (ta + 3) 0))), g)) else (some (0, g))) (fun o => o.1 = w60 v ∧ pS (ta + 3) o.2 h) := by
    intro w g hg hw hp
    have hl := congrArg List.length hp
    rw [pileL_len] at hl
    have hl1 : w.toInt.toNat = 1 := hl
    rw [hl1, pileL, pileL] at hp
    have e0 : g (ta + 3) 0 = v := (List.cons.inj hp).1
    refine al_ite (fun _ => al_some ⟨?_, hg⟩) (fun z => absurd hl1 (by omega))
    rw [w60_min, e0]
  refine al_ite (fun c => ?_) (fun c => al_ite (fun c2 => ?_) (fun _ => al_none))
  · have p0 : pt = 0 := by omega
    subst p0
    have a0 : tA h ta 0 = 0 := rfl
    rw [a0] at hv
    refine value_loop zt hpt (by omega) ha2 _ 0 0 h (by decide) (by decide) (by decide) (by rw [ti0]; exact o2) o3 hnm ?_ fin
    exact hv
  · have t1 : (v1 - 1).toInt = v1.toInt - 1 := i_sub rfl (by decide) (by omega) (by omega)
    have e1 : (v1 - 1).toInt.toNat = pt - 1 := by omega
    rw [e1]
    have a1 : tA h ta pt = (h (ta + 2) (pt - 1)).toInt.toNat := by unfold tA; rw [if_neg (by omega)]
    have o4 := (hok (pt - 1) (by omega)).2.1
    rw [a1] at hv o1
    unfold tB at o1
    refine value_loop zt hpt hpt3 ha2 _ 0 _ h (by decide) (by decide) o4 (by omega) o3 hnm ?_ fin
    exact hv
end
end

section
/-! streets: what both tell of houses, as functions -/
noncomputable section
/-- how many houses, LIMIT, kinds, numbers, tables, what the rule tells -/
abbrev zY : Type := Nat × Int32 × (Nat → Int32) × (Nat → Int32) × (Nat → Int32) × (Nat → (Nat → Int32) → Int32)
abbrev yN (Y : zY) : Nat := Y.1
abbrev yL (Y : zY) : Int32 := Y.2.1
abbrev yK (Y : zY) : Nat → Int32 := Y.2.2.1
abbrev yB (Y : zY) : Nat → Int32 := Y.2.2.2.1
abbrev yT (Y : zY) : Nat → Int32 := Y.2.2.2.2.1
abbrev yE (Y : zY) : Nat → (Nat → Int32) → Int32 := Y.2.2.2.2.2
abbrev zT2 : Type := Nat → Nat → Int32
def cnt32 (f : Nat → Bool) : Nat → Int32
  | 0 => 0
  | m + 1 => if f m = true then cnt32 f m + 1 else cnt32 f m
theorem cnt32_congr {f g : Nat → Bool} : ∀ m, (∀ j, j < m → f j = g j) → cnt32 f m = cnt32 g m
  | 0, _ => rfl
  | m + 1, h => by rw [cnt32, cnt32, h m (by omega), cnt32_congr m (fun j hj => h j (by omega))]
theorem cnt32_rng (f : Nat → Bool) : ∀ m, m ≤ 1000 → 0 ≤ (cnt32 f m).toInt ∧ (cnt32 f m).toInt ≤ m
  | 0, _ => by rw [cnt32, ti0]; omega
  | m + 1, hm => by
    have ih := cnt32_rng f m (by omega)
    rw [cnt32]
    by_cases h : f m = true
    · rw [if_pos h, i_add rfl ti1 (by omega) (by omega)]; omega
    · rw [if_neg h]; omega
theorem cnt32_zero {f : Nat → Bool} : ∀ m, (∀ j, j < m → f j = false) → cnt32 f m = 0
  | 0, _ => rfl
  | m + 1, h => by
    rw [cnt32, h m (by omega), cnt32_zero m (fun j hj => h j (by omega))]
    rfl
def seatsS (Y : zY) (i : Nat) : Int32 := if (yT Y i).toInt = -1 then 0 else cnt32 (fun k => decide ((yT Y k).toInt = (yT Y i).toInt)) (yN Y)
def apS (i j : Nat) : Int32 := Int32.ofNat (if j < i then i - j else j - i)
def nmS (Y : zY) (y : Int32) (st : zT2) (i j : Nat) : Nat → Int32
  | 0 => st i j
  | 1 => yB Y i
  | 2 => yB Y j
  | 3 => seatsS Y i
  | 4 => y
  | 5 => apS i j
  | _ => 0
def nmZ (Y : zY) (y : Int32) (i : Nat) : Nat → Int32
  | 1 => yB Y i
  | 3 => seatsS Y i
  | 4 => y
  | _ => 0
def mtV (k n v ap : Int32) : Int32 := if k.toInt = 1 then 2 * v else if k.toInt = 2 then v / 2 else if k.toInt = 3 then 2 * v + n else if k.toInt = 4 then (if 2 < ap.toInt then 0 else v / 2) else if k.toInt = 5 then 3 else v
def fdV (k y v : Int32) : Int32 := if k.toInt = 1 then v + 1 else if k.toInt = 2 then v / 2 else if k.toInt = 3 then 2 * (v + 1) else if k.toInt = 4 then (if (drem y 2).toInt = 0 then 0 else v / 2) else v
def sdV (k n v : Int32) : Int32 := if k.toInt = 1 then v + 5 else if k.toInt = 2 then 0 else if k.toInt = 3 then 2 * (v + 5) else if k.toInt = 4 then 0 else if k.toInt = 5 then n else v
def mtS (Y : zY) (y : Int32) (st : zT2) (i j : Nat) : Int32 := mtV (yK Y i) (yB Y i) (yE Y 0 (nmS Y y st i j)) (apS i j)
def fdS (Y : zY) (y : Int32) (st : zT2) (i j : Nat) : Int32 := fdV (yK Y i) y (yE Y 1 (nmS Y y st i j))
def sdS (Y : zY) (y : Int32) (i : Nat) : Int32 := sdV (yK Y i) (yB Y i) (yE Y 2 (nmZ Y y i))
/-- the class's street at a -/
def SC (a : Nat) (Y : zY) (y : Int32) (st : zT2) (h : dH) : Prop :=
  h a 0 = y ∧ h a 1 = yL Y ∧ (h a 2).toInt = yN Y ∧ yN Y ≤ 8 ∧ (∀ i, i < yN Y → h (a + 1) i = yK Y i ∧ h (a + 2) i = yB Y i ∧ h (a + 3) i = yT Y i) ∧ (∀ i j, i < yN Y → j < yN Y → h (a + 5 + i) j = st i j) ∧
  tOk h (dtx (h a 3)) ∧ (∀ nm pt, pt < 3 → ∃ v, tEv h (dtx (h a 3)) nm pt = some [v]) ∧ (∀ pt nm, pt < 3 → evF h (dtx (h a 3)) pt nm = yE Y pt nm)
/-- all but one street's own rows and the piles -/
def cFr (a : Nat) (g h : dH) : Prop := ∀ b k, ¬ (a ≤ b ∧ b ≤ a + 13) → ¬ (13 ≤ b ∧ b ≤ 33 ∧ b % 4 = 1) → g b k = h b k
/-- .. and of the street's its names alone -/
def nFr (a : Nat) (g h : dH) : Prop := ∀ b k, ¬ b = a + 13 → ¬ (13 ≤ b ∧ b ≤ 33 ∧ b % 4 = 1) → g b k = h b k
theorem cFr.refl (a : Nat) (h : dH) : cFr a h h := fun _ _ _ _ => rfl
theorem cFr.trans {a : Nat} {f g h : dH} (q : cFr a f g) (r : cFr a g h) : cFr a f h := fun b k x y => (q b k x y).trans (r b k x y)
theorem nFr.refl (a : Nat) (h : dH) : nFr a h h := fun _ _ _ _ => rfl
theorem nFr.trans {a : Nat} {f g h : dH} (q : nFr a f g) (r : nFr a g h) : nFr a f h := fun b k x y => (q b k x y).trans (r b k x y)
theorem nFr.c {a : Nat} {g h : dH} (q : nFr a g h) : cFr a g h := fun b k x y => q b k (by omega) y
theorem zS_or {a : Nat} (h : zS a) : a = 43 ∨ a = 57 ∨ a = 71 := h
theorem tEv_congr {f g : dH} {ta : Nat} (h1 : ∀ k, f (ta + 1) k = g (ta + 1) k) (h2 : ∀ k, f (ta + 2) k = g (ta + 2) k) : (tOk f ta ↔ tOk g ta) ∧ (∀ nm pt, tEv f ta nm pt = tEv g ta nm pt) ∧ ∀ pt nm, evF f ta pt nm = evF g ta pt nm := by
  have a : tA f ta = tA g ta := by funext pt; unfold tA; rw [h2]
  have b : tB f ta = tB g ta := by funext pt; unfold tB; rw [h2]
  have c : f (ta + 1) = g (ta + 1) := funext h1
  have e : ∀ nm pt, tEv f ta nm pt = tEv g ta nm pt := fun nm pt => by unfold tEv; rw [a, b, c]
  refine ⟨by unfold tOk; rw [a, b]; constructor <;> intro h pt hp <;> have := h pt hp <;> rw [h2] at * <;> exact this, e, fun pt nm => by unfold evF; rw [e]⟩
theorem dtx_or (x : Int32) : dtx x = 10 ∨ dtx x = 14 ∨ dtx x = 18 ∨ dtx x = 22 ∨ dtx x = 26 ∨ dtx x = 30 := zT_dtx x
/-- the texts' rows stand under both frames -/
theorem SC.n {a : Nat} (ha : zS a) {Y : zY} {y : Int32} {st : zT2} {g h : dH} (q : nFr a g h) (H : SC a Y y st h) : SC a Y y st g := by
  have z := zS_or ha
  obtain ⟨h0, h1, h2, h3, h4, h5, h6, h7, h8⟩ := H
  have e : ∀ b k, (a ≤ b ∧ b ≤ a + 12) → g b k = h b k := fun b k hb => q b k (by omega) (by omega)
  have t := dtx_or (h a 3)
  have e3 : g a 3 = h a 3 := e a 3 (by omega)
  obtain ⟨c1, c2, c3⟩ := tEv_congr (f := g) (g := h) (ta := dtx (h a 3)) (fun k => q _ k (by omega) (by omega)) (fun k => q _ k (by omega) (by omega))
  refine ⟨by rw [e a 0 (by omega)]; exact h0, by rw [e a 1 (by omega)]; exact h1, by rw [e a 2 (by omega)]; exact h2, h3, fun i hi => ?_, fun i j hi hj => ?_, ?_, ?_, ?_⟩
  · rw [e (a + 1) i (by omega), e (a + 2) i (by omega), e (a + 3) i (by omega)]; exact h4 i hi
  · rw [e (a + 5 + i) j (by omega)]; exact h5 i j hi hj
  · rw [e3]; exact c1.mpr h6
  · rw [e3]; exact fun nm pt hp => by rw [c2]; exact h7 nm pt hp
  · rw [e3]; exact fun pt nm hp => by rw [c3]; exact h8 pt nm hp
/-! the class: seats, names, what a house tells -/
theorem seatsAt_11 {a : Nat} {h : dH} {Y : zY} {y : Int32} {st : zT2} (H : SC a Y y st h) {v1 : Int32} : ∀ (n : Nat) (v2 v3 : Int32), 0 ≤ v3.toInt → v3.toInt ≤ yN Y → v2 = cnt32 (fun k => decide ((yT Y k).toInt = v1.toInt)) v3.toInt.toNat → Al (l_X3_seatsAt_11 a v1 h (fun v => some v) n v2 v3) (fun r => r = cnt32 (fun k => decide ((yT Y k).toInt = v1.toInt)) (yN Y))
  | 0, _, _, _, _, _ => al_none
  | n + 1, v2, v3, p0, p1, e => by
    obtain ⟨h0, h1, h2, h3, h4, h5, -⟩ := id H
    rw [l_X3_seatsAt_11]
    have t3 : v3.toInt < 8 → (v3 + 1).toInt = v3.toInt + 1 := fun z => i_add rfl (by decide) (by omega) (by omega)
    refine al_ite (fun c => al_ite (fun _ => ?_) (fun _ => al_none)) (fun c => al_some ?_)
    · have en : (v3 + 1).toInt.toNat = v3.toInt.toNat + 1 := by rw [t3 (by omega)]; omega
      rw [(h4 v3.toInt.toNat (by omega)).2.2]
      refine al_ite (fun z => seatsAt_11 H n _ _ (by rw [t3 (by omega)]; omega) (by rw [t3 (by omega)]; omega) ?_) (fun z => seatsAt_11 H n _ _ (by rw [t3 (by omega)]; omega) (by rw [t3 (by omega)]; omega) ?_)
      · rw [en, cnt32, if_pos (decide_eq_true z), e]
      · rw [en, cnt32, if_neg (by rw [decide_eq_true_eq]; exact z), e]
    · rw [e, show v3.toInt.toNat = yN Y by omega]
theorem seatsAt_ok {a : Nat} {h : dH} {Y : zY} {y : Int32} {st : zT2} (H : SC a Y y st h) {v1 : Int32} : Al (f_X3_seatsAt a v1 h) (fun r => r = if v1.toInt = -1 then 0 else cnt32 (fun k => decide ((yT Y k).toInt = v1.toInt)) (yN Y)) := by
  unfold f_X3_seatsAt
  refine al_ite (fun c => al_some (by rw [if_pos c])) (fun c => ?_)
  rw [if_neg c]
  exact seatsAt_11 H _ 0 0 (by decide) (by rw [ti0]; omega) rfl
theorem abs_ok {v1 v2 : Int32} {i j : Nat} (h1 : v1.toInt = i) (h2 : v2.toInt = j) (hi : i < 1000) (hj : j < 1000) : dabs (v1 - v2) = apS i j := by
  have hs : (v1 - v2).toInt = (i : Int) - j := i_sub h1 h2 (by omega) (by omega)
  apply Int32.toInt_inj.mp
  unfold dabs apS
  rw [Int32.toInt_ofNat_of_lt (by split <;> omega)]
  have lt : (v1 - v2) < 0 ↔ (v1 - v2).toInt < 0 := by rw [Int32.lt_iff_toInt_lt, ti0]
  by_cases c : (v1 - v2) < 0
  · rw [if_pos c]
    have c' := lt.mp c
    have : (-(v1 - v2)).toInt = -((i : Int) - j) := by
      rw [Int32.toInt_neg, hs, bm32 (by omega) (by omega)]
    rw [this, if_neg (by omega)]
    omega
  · rw [if_neg c, hs]
    have c' : ¬ (v1 - v2).toInt < 0 := fun z => c (lt.mpr z)
    by_cases z : j < i
    · rw [if_pos z]; omega
    · rw [if_neg z]; omega
theorem look_ok {a : Nat} (ha : zS a) {h : dH} {Y : zY} {y : Int32} {st : zT2} (H : SC a Y y st h) {v1 v2 : Int32} {i j : Nat} (h1 : v1.toInt = i) (h2 : v2.toInt = j) (hi : i < yN Y) (hj : j < yN Y) : Al (f_X3_look a v1 v2 h) (fun g => (∀ b k, ¬ b = a + 13 → g b k = h b k) ∧ ∀ k, k < 6 → g (a + 13) k = nmS Y y st i j k) := by
  obtain ⟨H0, H1, H2, H3, H4, H5, -⟩ := id H
  have z := zS_or ha
  unfold f_X3_look
  have e1 : v1.toInt.toNat = i := by omega
  have e2 : v2.toInt.toNat = j := by omega
  rw [e1, e2]
  refine al_ite (fun _ => al_ite (fun _ => al_oH' (fun g3 q3 => al_ite (fun _ => al_oH' (fun g5 q5 => al_ite (fun _ => al_oH' (fun g7 q7 => al_ite (fun _ => al_oP (fun r9 hr => al_oH' (fun g10 q10 => al_oH' (fun g11 q11 => al_oH' (fun g12 q12 => al_some ?_))))) (fun _ => al_none))) (fun _ => al_none))) (fun _ => al_none))) (fun _ => al_none)) (fun _ => al_none)
  have k7 : ∀ b k, ¬ b = a + 13 → g7 b k = h b k := fun b k q => by rw [q7, dU_ne (by omega), q5, dU_ne (by omega), q3, dU_ne (by omega)]
  have S7 : SC a Y y st g7 := H.n ha (fun b k q _ => k7 b k q)
  have r := seatsAt_ok S7 r9 hr
  rw [k7 _ _ (by omega), (H4 i hi).2.2] at r
  have k12 : ∀ b k, ¬ b = a + 13 → g12 b k = h b k := fun b k q => by rw [q12, dU_ne (by omega), q11, dU_ne (by omega), q10, dU_ne (by omega), k7 b k q]
  refine ⟨k12, fun k hk => ?_⟩
  have x5 : k = 0 ∨ k = 1 ∨ k = 2 ∨ k = 3 ∨ k = 4 ∨ k = 5 := by omega
  rcases x5 with rfl | rfl | rfl | rfl | rfl | rfl
  · rw [q12, dU_ne (by omega), q11, dU_ne (by omega), q10, dU_ne (by omega), q7, dU_ne (by omega), q5, dU_ne (by omega), q3, dU_eq]
    exact H5 i j hi hj
  · rw [q12, dU_ne (by omega), q11, dU_ne (by omega), q10, dU_ne (by omega), q7, dU_ne (by omega), q5, dU_eq, q3, dU_ne (by omega)]
    exact (H4 i hi).2.1
  · rw [q12, dU_ne (by omega), q11, dU_ne (by omega), q10, dU_ne (by omega), q7, dU_eq, q5, dU_ne (by omega), q3, dU_ne (by omega)]
    exact (H4 j hj).2.1
  · rw [q12, dU_ne (by omega), q11, dU_ne (by omega), q10, dU_eq]
    exact r
  · rw [q12, dU_ne (by omega), q11, dU_eq, q10, dU_ne (by omega), k7 _ _ (by omega)]
    exact H0
  · rw [q12, dU_eq]
    exact abs_ok h1 h2 (by omega) (by omega)
/-- a part's value for the class's names -/
theorem cval {a : Nat} (ha : zS a) {h g : dH} {Y : zY} {y : Int32} {st : zT2} (H : SC a Y y st h) (hg : ∀ b k, ¬ b = a + 13 → g b k = h b k) {nm : Nat → Int32} (hnm : ∀ k, k < 6 → g (a + 13) k = nm k) {pt : Nat} (hpt : pt < 3) {v : Int32} (hv : v.toInt = pt) : Al (f_X5_value (dtx (g a 3)) v (a + 13) g) (fun o => o.1 = yE Y pt nm ∧ nFr a o.2 h ∧ pS (dtx (h a 3) + 3) o.2 g) := by
  have z := zS_or ha
  have G : SC a Y y st g := H.n ha (fun b k q _ => hg b k q)
  obtain ⟨-, -, -, -, -, -, G6, G7, G8⟩ := G
  have e3 : g a 3 = h a 3 := hg a 3 (by omega)
  rw [e3] at G6 G7 G8 ⊢
  have t := dtx_or (h a 3)
  intro o ho
  obtain ⟨x1, x2⟩ := value_ok (nm := nm) (zT_dtx _) hv hpt (by omega) G6 hnm (G7 nm pt hpt) o ho
  refine ⟨by rw [x1]; exact G8 pt nm hpt, fun b k q1 q2 => ?_, x2⟩
  rw [x2 b k (by omega), hg b k q1]
theorem meets_ok {a : Nat} (ha : zS a) {h : dH} {Y : zY} {y : Int32} {st : zT2} (H : SC a Y y st h) {v1 v2 : Int32} {i j : Nat} (h1 : v1.toInt = i) (h2 : v2.toInt = j) (hi : i < yN Y) (hj : j < yN Y) : Al (f_X3_meets a v1 v2 h) (fun o => o.1 = mtS Y y st i j ∧ nFr a o.2 h) := by
  have z := zS_or ha
  unfold f_X3_meets
  refine al_oV' (fun g1 q1 => al_oI (fun r2 g3 q3 => ?_))
  obtain ⟨l1, l2⟩ := look_ok ha H h1 h2 hi hj g1 q1
  obtain ⟨x1, x2, x3⟩ := cval ha H l1 l2 (pt := 0) (by omega) (v := 0) (by decide) (r2, g3) q3
  simp only at x1 x2 x3
  have G := H.n ha x2
  obtain ⟨G0, G1, G2, G3, G4, G5, -⟩ := id G
  have e1 : v1.toInt.toNat = i := by omega
  rw [e1, (G4 i hi).1, (G4 i hi).2.1]
  have t := dtx_or (h a 3)
  have e5 : g3 (a + 13) 5 = apS i j := by rw [x3 _ _ (by omega), l2 5 (by omega)]; rfl
  rw [e5]
  unfold mtS mtV
  rw [← x1]
  refine al_ite (fun _ => al_ite (fun c1 => al_some ⟨by rw [if_pos c1], x2⟩) (fun c1 => al_ite (fun c2 => al_some ⟨by rw [if_neg c1, if_pos c2], x2⟩) (fun c2 => al_ite (fun c3 => al_ite (fun _ => al_some ⟨by rw [if_neg c1, if_neg c2, if_pos c3], x2⟩) (fun _ => al_none)) (fun c3 => al_ite (fun c4 => al_ite (fun c5 => al_some ⟨by rw [if_neg c1, if_neg c2, if_neg c3, if_pos c4, if_pos c5], x2⟩) (fun c5 => al_some ⟨by rw [if_neg c1, if_neg c2, if_neg c3, if_pos c4, if_neg c5], x2⟩)) (fun c4 => al_ite (fun c5 => al_some ⟨by rw [if_neg c1, if_neg c2, if_neg c3, if_neg c4, if_pos c5], x2⟩) (fun c5 => al_some ⟨by rw [if_neg c1, if_neg c2, if_neg c3, if_neg c4, if_neg c5], x2⟩)))))) (fun _ => al_none)
theorem forgets_ok {a : Nat} (ha : zS a) {h : dH} {Y : zY} {y : Int32} {st : zT2} (H : SC a Y y st h) {v1 v2 : Int32} {i j : Nat} (h1 : v1.toInt = i) (h2 : v2.toInt = j) (hi : i < yN Y) (hj : j < yN Y) : Al (f_X3_forgets a v1 v2 h) (fun o => o.1 = fdS Y y st i j ∧ nFr a o.2 h) := by
  have z := zS_or ha
  unfold f_X3_forgets
  refine al_oV' (fun g1 q1 => al_oI (fun r2 g3 q3 => ?_))
  obtain ⟨l1, l2⟩ := look_ok ha H h1 h2 hi hj g1 q1
  obtain ⟨x1, x2, x3⟩ := cval ha H l1 l2 (pt := 1) (by omega) (v := 1) (by decide) (r2, g3) q3
  simp only at x1 x2 x3
  have G := H.n ha x2
  obtain ⟨G0, G1, G2, G3, G4, G5, -⟩ := id G
  have e1 : v1.toInt.toNat = i := by omega
  rw [e1, (G4 i hi).1, G0]
  unfold fdS fdV
  rw [← x1]
  refine al_ite (fun _ => al_ite (fun c1 => al_some ⟨by rw [if_pos c1], x2⟩) (fun c1 => al_ite (fun c2 => al_some ⟨by rw [if_neg c1, if_pos c2], x2⟩) (fun c2 => al_ite (fun c3 => al_some ⟨by rw [if_neg c1, if_neg c2, if_pos c3], x2⟩) (fun c3 => al_ite (fun c4 => al_ite (fun c5 => al_some ⟨by rw [if_neg c1, if_neg c2, if_neg c3, if_pos c4, if_pos c5], x2⟩) (fun c5 => al_some ⟨by rw [if_neg c1, if_neg c2, if_neg c3, if_pos c4, if_neg c5], x2⟩)) (fun c4 => al_some ⟨by rw [if_neg c1, if_neg c2, if_neg c3, if_neg c4], x2⟩))))) (fun _ => al_none)
theorem sounds_ok {a : Nat} (ha : zS a) {h : dH} {Y : zY} {y : Int32} {st : zT2} (H : SC a Y y st h) {v1 : Int32} {i : Nat} (h1 : v1.toInt = i) (hi : i < yN Y) (hd : st i i = 0) : Al (f_X3_sounds a v1 h) (fun o => o.1 = sdS Y y i ∧ nFr a o.2 h) := by
  have z := zS_or ha
  unfold f_X3_sounds
  refine al_oV' (fun g1 q1 => al_oH' (fun g2 q2 => al_oI (fun r2 g3 q3 => ?_)))
  obtain ⟨l1, l2⟩ := look_ok ha H h1 h1 hi hi g1 q1
  have m1 : ∀ b k, ¬ b = a + 13 → g2 b k = h b k := fun b k q => by rw [q2, dU_ne (by omega)]; exact l1 b k q
  have ap0 : apS i i = 0 := by unfold apS; rw [if_neg (Nat.lt_irrefl i), Nat.sub_self]; rfl
  have m2 : ∀ k, k < 6 → g2 (a + 13) k = nmZ Y y i k := by
    intro k hk
    have x5 : k = 0 ∨ k = 1 ∨ k = 2 ∨ k = 3 ∨ k = 4 ∨ k = 5 := by omega
    rcases x5 with rfl | rfl | rfl | rfl | rfl | rfl
    · rw [q2, dU_ne (by omega), l2 0 hk]; exact hd
    · rw [q2, dU_ne (by omega), l2 1 hk]; rfl
    · rw [q2, dU_eq]; rfl
    · rw [q2, dU_ne (by omega), l2 3 hk]; rfl
    · rw [q2, dU_ne (by omega), l2 4 hk]; rfl
    · rw [q2, dU_ne (by omega), l2 5 hk]; exact ap0
  obtain ⟨x1, x2, x3⟩ := cval ha H m1 m2 (pt := 2) (by omega) (v := 2) (by decide) (r2, g3) q3
  simp only at x1 x2 x3
  have G := H.n ha x2
  obtain ⟨G0, G1, G2, G3, G4, G5, -⟩ := id G
  have e1 : v1.toInt.toNat = i := by omega
  rw [e1, (G4 i hi).1, (G4 i hi).2.1]
  unfold sdS sdV
  rw [← x1]
  refine al_ite (fun _ => al_ite (fun c1 => al_some ⟨by rw [if_pos c1], x2⟩) (fun c1 => al_ite (fun c2 => al_some ⟨by rw [if_neg c1, if_pos c2], x2⟩) (fun c2 => al_ite (fun c3 => al_some ⟨by rw [if_neg c1, if_neg c2, if_pos c3], x2⟩) (fun c3 => al_ite (fun c4 => al_some ⟨by rw [if_neg c1, if_neg c2, if_neg c3, if_pos c4], x2⟩) (fun c4 => al_ite (fun c5 => al_ite (fun _ => al_some ⟨by rw [if_neg c1, if_neg c2, if_neg c3, if_neg c4, if_pos c5], x2⟩) (fun _ => al_none)) (fun c5 => al_some ⟨by rw [if_neg c1, if_neg c2, if_neg c3, if_neg c4, if_neg c5], x2⟩)))))) (fun _ => al_none)
end
end

section
/-! streets: the reference's seats, names, what a house tells -/
noncomputable section
/-- what the rule tells, read anew over the same bytes -/
def mEv (E : Nat → (Nat → Int32) → Int32) (h : dH) : Prop := ∀ (h' : dH) (v1 v2 : Int32) (o : Int32 × dH) (pt : Nat), (∀ k, h' 1 k = h 1 k) → (∀ k, h' 2 k = h 2 k) → pt < 3 → v1 = h 0 4 → v2.toInt = pt → f_X7_read v1 v2 h' = some o → mRd o.2 h' ∧ w60 o.1 = E pt (nmF h')
/-- the reference's street -/
def SM (Y : zY) (y : Int32) (st : zT2) (h : dH) : Prop :=
  h 0 7 = y ∧ h 0 8 = yL Y ∧ (h 0 13).toInt = yN Y ∧ yN Y ≤ 8 ∧ (∀ i, i < yN Y → h 4 i = yK Y i ∧ h 5 i = yB Y i ∧ h 6 i = yT Y i) ∧ (∀ i j, i < yN Y → j < yN Y → h 7 (8 * i + j) = st i j) ∧ mEv (yE Y) h
/-- all but its names and its reading -/
def mFr (g h : dH) : Prop := ∀ a k, ¬ (a = 0 ∧ 14 ≤ k ∧ k ≤ 28) → g a k = h a k
theorem mFr.refl (h : dH) : mFr h h := fun _ _ _ => rfl
theorem mFr.trans {f g h : dH} (q : mFr f g) (r : mFr g h) : mFr f h := fun a k x => (q a k x).trans (r a k x)
theorem mEv.same {E : Nat → (Nat → Int32) → Int32} {g h : dH} (H : mEv E h) (h1 : ∀ k, g 1 k = h 1 k) (h2 : ∀ k, g 2 k = h 2 k) (h4 : g 0 4 = h 0 4) : mEv E g := fun h' v1 v2 o pt a1 a2 a3 a4 a5 a6 => H h' v1 v2 o pt (fun k => (a1 k).trans (h1 k)) (fun k => (a2 k).trans (h2 k)) a3 (a4.trans h4) a5 a6
theorem SM.n {Y : zY} {y : Int32} {st : zT2} {g h : dH} (q : mFr g h) (H : SM Y y st h) : SM Y y st g := by
  obtain ⟨h0, h1, h2, h3, h4, h5, h6⟩ := H
  refine ⟨by rw [q 0 7 (by omega)]; exact h0, by rw [q 0 8 (by omega)]; exact h1, by rw [q 0 13 (by omega)]; exact h2, h3, fun i hi => ?_, fun i j hi hj => ?_, h6.same (fun k => q 1 k (by omega)) (fun k => q 2 k (by omega)) (q 0 4 (by omega))⟩
  · rw [q 4 i (by omega), q 5 i (by omega), q 6 i (by omega)]; exact h4 i hi
  · rw [q 7 _ (by omega)]; exact h5 i j hi hj
theorem mRd.m {g h : dH} (q : mRd g h) : mFr g h := fun a k x => by
  by_cases ha : a = 0
  · rw [ha]; exact q.2 k (by omega)
  · exact q.1 a k ha
theorem seatsOf_4 {h : dH} {Y : zY} {y : Int32} {st : zT2} (H : SM Y y st h) {v1 : Int32} {i : Nat} (h1 : v1.toInt = i) (hi : i < yN Y) : ∀ (n : Nat) (v2 v3 : Int32), 0 ≤ v3.toInt → v3.toInt ≤ yN Y → v2 = (if (yT Y i).toInt = -1 then 0 else cnt32 (fun k => decide ((yT Y k).toInt = (yT Y i).toInt)) v3.toInt.toNat) → Al (l_X7_seatsOf_4 v1 h (fun v => some v) n v2 v3) (fun r => r = seatsS Y i)
  | 0, _, _, _, _, _ => al_none
  | n + 1, v2, v3, p0, p1, e => by
    obtain ⟨H0, H1, H2, H3, H4, H5, -⟩ := id H
    rw [l_X7_seatsOf_4]
    have e1 : v1.toInt.toNat = i := by omega
    rw [e1]
    have t3 : v3.toInt < 8 → (v3 + 1).toInt = v3.toInt + 1 := fun z => i_add rfl (by decide) (by omega) (by omega)
    have go : v3.toInt < yN Y → ∀ w : Int32, w = (if (yT Y i).toInt = -1 then 0 else cnt32 (fun k => decide ((yT Y k).toInt = (yT Y i).toInt)) (v3.toInt.toNat + 1)) → Al (l_X7_seatsOf_4 v1 h (fun v => some v) n w (v3 + 1)) (fun r => r = seatsS Y i) := by
      intro z w hw
      have en : (v3 + 1).toInt.toNat = v3.toInt.toNat + 1 := by rw [t3 (by omega)]; omega
      exact seatsOf_4 H h1 hi n w (v3 + 1) (by rw [t3 (by omega)]; omega) (by rw [t3 (by omega)]; omega) (by rw [en]; exact hw)
    refine al_ite (fun c => al_ite (fun _ => ?_) (fun _ => al_none)) (fun c => al_some ?_)
    · rw [(H4 i hi).2.2]
      refine al_ite (fun z => go (by omega) _ ?_) (fun z => al_ite (fun _ => al_ite (fun _ => ?_) (fun _ => al_none)) (fun _ => al_none))
      · rw [Int32.add_zero, e, if_pos z, if_pos z]
      · rw [(H4 v3.toInt.toNat (by omega)).2.2]
        rw [if_neg z] at e
        refine al_ite (fun q => go (by omega) _ ?_) (fun q => go (by omega) _ ?_)
        · rw [if_neg z, cnt32, if_pos (decide_eq_true q), e]
        · rw [Int32.add_zero, if_neg z, cnt32, if_neg (by rw [decide_eq_true_eq]; exact q), e]
    · rw [e, show v3.toInt.toNat = yN Y by omega]
      rfl
theorem seatsOf_ok {h : dH} {Y : zY} {y : Int32} {st : zT2} (H : SM Y y st h) {v1 : Int32} {i : Nat} (h1 : v1.toInt = i) (hi : i < yN Y) : Al (f_X7_seatsOf v1 h) (fun r => r = seatsS Y i) := by
  unfold f_X7_seatsOf
  refine seatsOf_4 H h1 hi _ 0 0 (by decide) (by rw [ti0]; omega) ?_
  by_cases z : (yT Y i).toInt = -1
  · rw [if_pos z]
  · rw [if_neg z]; rfl
theorem within60 {v : Int32} : Al (f_X7_within v 0 60) (fun r => r = w60 v) := by
  unfold f_X7_within w60
  rw [ti0, show (60 : Int32).toInt = 60 by decide]
  exact al_ite (fun c => al_some (by rw [if_pos c])) (fun c => al_ite (fun d => al_some (by rw [if_neg c, if_pos d])) (fun d => al_some (by rw [if_neg c, if_neg d])))
theorem apart_ok {v1 v2 : Int32} {i j : Nat} (h1 : v1.toInt = i) (h2 : v2.toInt = j) (hi : i < 1000) (hj : j < 1000) : Al (f_X7_apart v1 v2) (fun r => r = apS i j) := by
  unfold f_X7_apart
  have e12 : (v1 - v2).toInt = (i : Int) - j := i_sub h1 h2 (by omega) (by omega)
  have e21 : (v2 - v1).toInt = (j : Int) - i := i_sub h2 h1 (by omega) (by omega)
  have ea : (apS i j).toInt = (if j < i then (i : Int) - j else j - i) := by
    unfold apS
    rw [Int32.toInt_ofNat_of_lt (by split <;> omega)]
    split <;> omega
  refine al_ite (fun c => al_some (Int32.toInt_inj.mp ?_)) (fun c => al_some (Int32.toInt_inj.mp ?_))
  · rw [e12, ea, if_pos (by omega)]
  · rw [e21, ea, if_neg (by omega)]
theorem ix8 {v1 v2 : Int32} {i j : Nat} (h1 : v1.toInt = i) (h2 : v2.toInt = j) (hi : i < 8) (hj : j < 8) : (8 * v1 + v2).toInt = 8 * (i : Int) + j ∧ (8 * v1 + v2).toInt.toNat = 8 * i + j := by
  have e1 : (8 * v1).toInt = 8 * (i : Int) := i_mul (by decide) h1 (by omega) (by omega)
  have e2 : (8 * v1 + v2).toInt = 8 * (i : Int) + j := i_add e1 h2 (by omega) (by omega)
  exact ⟨e2, by omega⟩
theorem strengthOf_ok {h : dH} {v1 v2 : Int32} {i j : Nat} (h1 : v1.toInt = i) (h2 : v2.toInt = j) (hi : i < 8) (hj : j < 8) : Al (f_X7_strengthOf v1 v2 h) (fun r => r = h 7 (8 * i + j)) := by
  unfold f_X7_strengthOf
  obtain ⟨e1, e2⟩ := ix8 h1 h2 hi hj
  rw [e2]
  exact al_ite (fun _ => al_some rfl) (fun _ => al_none)
/-- the last step of says -/
theorem says_end {h g : dH} {Y : zY} {y : Int32} {st : zT2} (H : SM Y y st h) (hg : mFr g h) {nm : Nat → Int32} (hnm : nmF g = nm) {v1 : Int32} {pt : Nat} (hpt : pt < 3) (hv : v1.toInt = pt) : Al (oI (f_X7_read (g 0 4) v1 g) (fun r x => oP (f_X7_within r 0 60) (fun r2 => some (r2, x)))) (fun o => o.1 = yE Y pt nm ∧ mFr o.2 h) := by
  refine al_oI (fun r x hr => al_oP (fun r2 hr2 => al_some ?_))
  obtain ⟨q1, q2⟩ := H.2.2.2.2.2.2 g (g 0 4) v1 (r, x) pt (fun k => hg 1 k (by omega)) (fun k => hg 2 k (by omega)) hpt (hg 0 4 (by omega)) hv hr
  refine ⟨?_, q1.m.trans hg⟩
  rw [within60 r2 hr2, ← hnm]
  exact q2
theorem says_ok {h : dH} {Y : zY} {y : Int32} {st : zT2} (H : SM Y y st h) {v1 v2 v3 : Int32} {pt i j : Nat} (hpt : pt < 3) (h1 : v1.toInt = pt) (h2 : v2.toInt = i) (h3 : v3.toInt = j) (hi : i < yN Y) (hj : j < yN Y) : Al (f_X7_says v1 v2 v3 h) (fun o => o.1 = yE Y pt (nmS Y y st i j) ∧ mFr o.2 h) := by
  obtain ⟨H0, H1, H2, H3, H4, H5, -⟩ := id H
  have e2 : v2.toInt.toNat = i := by omega
  have e3 : v3.toInt.toNat = j := by omega
  unfold f_X7_says
  rw [if_neg (by omega), e2, e3]
  refine al_oP (fun r39 hr => al_oH' (fun g40 q40 => al_ite (fun _ => al_oH' (fun g42 q42 => al_ite (fun z => absurd z (by omega)) (fun _ => al_ite (fun _ => al_oH' (fun g61 q61 => al_oP (fun r62 hr62 => al_oH' (fun g63 q63 => al_oH' (fun g64 q64 => al_ite (fun z => absurd z (by omega)) (fun _ => al_oP (fun r71 hr71 => al_oH' (fun g72 q72 => ?_)))))))) (fun _ => al_none)))) (fun _ => al_none)))
  have s1 := strengthOf_ok h2 h3 (by omega) (by omega) r39 hr
  have m61 : mFr g61 h := fun a k x => by rw [q61, dU_ne (by omega), q42, dU_ne (by omega), q40, dU_ne (by omega)]
  have s2 := seatsOf_ok (H.n m61) h2 hi r62 hr62
  have s3 := apart_ok h2 h3 (by omega) (by omega) r71 hr71
  have m72 : mFr g72 h := fun a k x => by rw [q72, dU_ne (by omega), q64, dU_ne (by omega), q63, dU_ne (by omega)]; exact m61 a k x
  refine says_end H m72 ?_ hpt h1
  funext k
  by_cases hk : k < 6
  · have x5 : k = 0 ∨ k = 1 ∨ k = 2 ∨ k = 3 ∨ k = 4 ∨ k = 5 := by omega
    unfold nmF
    rw [if_pos hk]
    rcases x5 with rfl | rfl | rfl | rfl | rfl | rfl
    · rw [q72, dU_ne (by omega), q64, dU_ne (by omega), q63, dU_ne (by omega), q61, dU_ne (by omega), q42, dU_ne (by omega), q40, dU_eq, s1]
      exact H5 i j hi hj
    · rw [q72, dU_ne (by omega), q64, dU_ne (by omega), q63, dU_ne (by omega), q61, dU_ne (by omega), q42, dU_eq, q40, dU_ne (by omega)]
      exact (H4 i hi).2.1
    · rw [q72, dU_ne (by omega), q64, dU_ne (by omega), q63, dU_ne (by omega), q61, dU_eq, q42, dU_ne (by omega), q40, dU_ne (by omega)]
      exact (H4 j hj).2.1
    · rw [q72, dU_ne (by omega), q64, dU_ne (by omega), q63, dU_eq]
      exact s2
    · rw [q72, dU_ne (by omega), q64, dU_eq, q63, dU_ne (by omega), m61 0 7 (by omega)]
      exact H0
    · rw [q72, dU_eq]
      exact s3
  · unfold nmF
    rw [if_neg hk]
    match k, hk with
    | 0, z => exact absurd z (by omega)
    | 1, z => exact absurd z (by omega)
    | 2, z => exact absurd z (by omega)
    | 3, z => exact absurd z (by omega)
    | 4, z => exact absurd z (by omega)
    | 5, z => exact absurd z (by omega)
    | k + 6, _ => rfl
theorem saysZ_ok {h : dH} {Y : zY} {y : Int32} {st : zT2} (H : SM Y y st h) {v1 v2 v3 : Int32} {pt i : Nat} (hpt : pt < 3) (h1 : v1.toInt = pt) (h2 : v2.toInt = i) (h3 : v3.toInt = -1) (hi : i < yN Y) : Al (f_X7_says v1 v2 v3 h) (fun o => o.1 = yE Y pt (nmZ Y y i) ∧ mFr o.2 h) := by
  obtain ⟨H0, H1, H2, H3, H4, H5, -⟩ := id H
  have e2 : v2.toInt.toNat = i := by omega
  unfold f_X7_says
  rw [if_pos h3, e2]
  refine al_oH' (fun g40 q40 => al_ite (fun _ => al_oH' (fun g42 q42 => al_ite (fun _ => al_oH' (fun g61 q61 => al_oP (fun r62 hr62 => al_oH' (fun g63 q63 => al_oH' (fun g64 q64 => al_ite (fun _ => al_oH' (fun g72 q72 => ?_)) (fun z => absurd h3 z)))))) (fun z => absurd h3 z))) (fun _ => al_none))
  have m61 : mFr g61 h := fun a k x => by rw [q61, dU_ne (by omega), q42, dU_ne (by omega), q40, dU_ne (by omega)]
  have s2 := seatsOf_ok (H.n m61) h2 hi r62 hr62
  have m72 : mFr g72 h := fun a k x => by rw [q72, dU_ne (by omega), q64, dU_ne (by omega), q63, dU_ne (by omega)]; exact m61 a k x
  refine says_end H m72 ?_ hpt h1
  funext k
  by_cases hk : k < 6
  · have x5 : k = 0 ∨ k = 1 ∨ k = 2 ∨ k = 3 ∨ k = 4 ∨ k = 5 := by omega
    unfold nmF
    rw [if_pos hk]
    rcases x5 with rfl | rfl | rfl | rfl | rfl | rfl
    · rw [q72, dU_ne (by omega), q64, dU_ne (by omega), q63, dU_ne (by omega), q61, dU_ne (by omega), q42, dU_ne (by omega), q40, dU_eq]
      rfl
    · rw [q72, dU_ne (by omega), q64, dU_ne (by omega), q63, dU_ne (by omega), q61, dU_ne (by omega), q42, dU_eq, q40, dU_ne (by omega)]
      exact (H4 i hi).2.1
    · rw [q72, dU_ne (by omega), q64, dU_ne (by omega), q63, dU_ne (by omega), q61, dU_eq]
      rfl
    · rw [q72, dU_ne (by omega), q64, dU_ne (by omega), q63, dU_eq]
      exact s2
    · rw [q72, dU_ne (by omega), q64, dU_eq, q63, dU_ne (by omega), m61 0 7 (by omega)]
      exact H0
    · rw [q72, dU_eq]
      rfl
  · unfold nmF
    rw [if_neg hk]
    match k, hk with
    | 0, z => exact absurd z (by omega)
    | 1, z => exact absurd z (by omega)
    | 2, z => exact absurd z (by omega)
    | 3, z => exact absurd z (by omega)
    | 4, z => exact absurd z (by omega)
    | 5, z => exact absurd z (by omega)
    | k + 6, _ => rfl
theorem meetsOf_ok {h : dH} {Y : zY} {y : Int32} {st : zT2} (H : SM Y y st h) {v1 v2 : Int32} {i j : Nat} (h1 : v1.toInt = i) (h2 : v2.toInt = j) (hi : i < yN Y) (hj : j < yN Y) : Al (f_X7_meetsOf v1 v2 h) (fun o => o.1 = mtS Y y st i j ∧ mFr o.2 h) := by
  obtain ⟨H0, H1, H2, H3, H4, H5, -⟩ := id H
  have e1 : v1.toInt.toNat = i := by omega
  unfold f_X7_meetsOf
  rw [e1, (H4 i hi).1]
  refine al_ite (fun _ => al_oI (fun r2 g3 hr => ?_)) (fun _ => al_none)
  obtain ⟨x1, x2⟩ := says_ok H (pt := 0) (by omega) (by decide) h1 h2 hi hj (r2, g3) hr
  simp only at x1 x2
  have en : g3 5 i = yB Y i := by rw [x2 5 i (by omega)]; exact (H4 i hi).2.1
  rw [en]
  unfold mtS mtV
  rw [← x1]
  refine al_ite (fun c1 => al_some ⟨by rw [if_pos c1], x2⟩) (fun c1 => al_ite (fun c3 => al_ite (fun _ => al_some ⟨by rw [if_neg c1, if_neg (by omega), if_pos c3], x2⟩) (fun _ => al_none)) (fun c3 => al_ite (fun c2 => al_some ⟨by rw [if_neg c1, if_pos c2], x2⟩) (fun c2 => al_ite (fun c4 => al_oP (fun r13 hr13 => ?_)) (fun c4 => al_ite (fun c5 => al_some ⟨by rw [if_neg c1, if_neg c2, if_neg c3, if_neg c4, if_pos c5], x2⟩) (fun c5 => al_some ⟨by rw [if_neg c1, if_neg c2, if_neg c3, if_neg c4, if_neg c5], x2⟩)))))
  have ea := apart_ok h1 h2 (by omega) (by omega) r13 hr13
  rw [ea]
  exact al_ite (fun c5 => al_some ⟨by rw [if_neg c1, if_neg c2, if_neg c3, if_pos c4, if_pos c5], x2⟩) (fun c5 => al_some ⟨by rw [if_neg c1, if_neg c2, if_neg c3, if_pos c4, if_neg c5], x2⟩)
theorem fadesOf_ok {h : dH} {Y : zY} {y : Int32} {st : zT2} (H : SM Y y st h) {v1 v2 : Int32} {i j : Nat} (h1 : v1.toInt = i) (h2 : v2.toInt = j) (hi : i < yN Y) (hj : j < yN Y) : Al (f_X7_fadesOf v1 v2 h) (fun o => o.1 = fdS Y y st i j ∧ mFr o.2 h) := by
  obtain ⟨H0, H1, H2, H3, H4, H5, -⟩ := id H
  have e1 : v1.toInt.toNat = i := by omega
  unfold f_X7_fadesOf
  rw [e1, (H4 i hi).1]
  refine al_ite (fun _ => al_oI (fun r2 g3 hr => ?_)) (fun _ => al_none)
  obtain ⟨x1, x2⟩ := says_ok H (pt := 1) (by omega) (by decide) h1 h2 hi hj (r2, g3) hr
  simp only at x1 x2
  have en : g3 0 7 = y := by rw [x2 0 7 (by omega)]; exact H0
  rw [en]
  unfold fdS fdV
  rw [← x1]
  refine al_ite (fun c1 => al_some ⟨by rw [if_pos c1], x2⟩) (fun c1 => al_ite (fun c3 => al_some ⟨by rw [if_neg c1, if_neg (by omega), if_pos c3], x2⟩) (fun c3 => al_ite (fun c2 => al_some ⟨by rw [if_neg c1, if_pos c2], x2⟩) (fun c2 => al_ite (fun c4 => ?_) (fun c4 => al_some ⟨by rw [if_neg c1, if_neg c2, if_neg c3, if_neg c4], x2⟩))))
  exact al_ite (fun c5 => al_some ⟨by rw [if_neg c1, if_neg c2, if_neg c3, if_pos c4, if_pos c5], x2⟩) (fun c5 => al_some ⟨by rw [if_neg c1, if_neg c2, if_neg c3, if_pos c4, if_neg c5], x2⟩)
theorem soundsOf_ok {h : dH} {Y : zY} {y : Int32} {st : zT2} (H : SM Y y st h) {v1 : Int32} {i : Nat} (h1 : v1.toInt = i) (hi : i < yN Y) : Al (f_X7_soundsOf v1 h) (fun o => o.1 = sdS Y y i ∧ mFr o.2 h) := by
  obtain ⟨H0, H1, H2, H3, H4, H5, -⟩ := id H
  have e1 : v1.toInt.toNat = i := by omega
  unfold f_X7_soundsOf
  rw [e1, (H4 i hi).1]
  refine al_ite (fun _ => al_oI (fun r2 g3 hr => ?_)) (fun _ => al_none)
  obtain ⟨x1, x2⟩ := saysZ_ok H (pt := 2) (by omega) (by decide) h1 (by decide) hi (r2, g3) hr
  simp only at x1 x2
  have en : g3 5 i = yB Y i := by rw [x2 5 i (by omega)]; exact (H4 i hi).2.1
  rw [en]
  unfold sdS sdV
  rw [← x1]
  exact al_ite (fun c1 => al_some ⟨by rw [if_pos c1], x2⟩) (fun c1 => al_ite (fun c3 => al_some ⟨by rw [if_neg c1, if_neg (by omega), if_pos c3], x2⟩) (fun c3 => al_ite (fun c2 => al_some ⟨by rw [if_neg c1, if_pos c2], x2⟩) (fun c2 => al_ite (fun c4 => al_some ⟨by rw [if_neg c1, if_neg c2, if_neg c3, if_pos c4], x2⟩) (fun c4 => al_ite (fun c5 => al_ite (fun _ => al_some ⟨by rw [if_neg c1, if_neg c2, if_neg c3, if_neg c4, if_pos c5], x2⟩) (fun _ => al_none)) (fun c5 => al_some ⟨by rw [if_neg c1, if_neg c2, if_neg c3, if_neg c4, if_neg c5], x2⟩)))))
end
end

section
/-! feasts and years, as functions; the class -/
noncomputable section
def w99 (v : Int32) : Int32 := if v.toInt < 0 then 0 else if 99 < v.toInt then 99 else v
theorem w99_rng (v : Int32) : 0 ≤ (w99 v).toInt ∧ (w99 v).toInt ≤ 99 := by
  unfold w99
  by_cases h : v.toInt < 0
  · rw [if_pos h]; decide
  · rw [if_neg h]
    by_cases z : 99 < v.toInt
    · rw [if_pos z]; decide
    · rw [if_neg z]; omega
def tieS (st : zT2) (i j : Nat) (v : Int32) : zT2 := fun a b => if (a = i ∧ b = j) ∨ (a = j ∧ b = i) then v else st a b
def fsStep (Y : zY) (y : Int32) (i j : Nat) (st : zT2) : zT2 := if (yT Y i).toInt = -1 then st else if (yT Y i).toInt = (yT Y j).toInt then tieS st i j (w99 (st i j + (mtS Y y st i j + mtS Y y st j i))) else st
def yrStep (Y : zY) (y : Int32) (i j : Nat) (st : zT2) : zT2 := tieS st i j (w99 (st i j - (fdS Y y st i j + fdS Y y st j i)))
def fIn {σ : Type} (F : Nat → Nat → σ → σ) (i : Nat) : Nat → σ → σ
  | 0, s => s
  | j + 1, s => if i < j then F i j (fIn F i j s) else fIn F i j s
def fOut {σ : Type} (F : Nat → Nat → σ → σ) (N : Nat) : Nat → σ → σ
  | 0, s => s
  | i + 1, s => fIn F i N (fOut F N i s)
theorem fIn_le {σ : Type} {F : Nat → Nat → σ → σ} {i : Nat} {s : σ} : ∀ j, j ≤ i + 1 → fIn F i j s = s
  | 0, _ => rfl
  | j + 1, h => by rw [fIn, if_neg (by omega)]; exact fIn_le j (by omega)
def feastS (Y : zY) (y : Int32) (st : zT2) : zT2 := fOut (fsStep Y y) (yN Y) (yN Y) st
def fadeS (Y : zY) (y : Int32) (st : zT2) : zT2 := fOut (yrStep Y y) (yN Y) (yN Y) st
/-- strengths in range, told alike by both, 0 with oneself -/
def Wf (N : Nat) (st : zT2) : Prop := (∀ i j, i < N → j < N → 0 ≤ (st i j).toInt ∧ (st i j).toInt ≤ 99 ∧ st i j = st j i) ∧ ∀ i, i < N → st i i = 0
theorem Wf.tie {N : Nat} {st : zT2} (W : Wf N st) {i j : Nat} (hij : i < j) {v : Int32} (hv : 0 ≤ v.toInt ∧ v.toInt ≤ 99) : Wf N (tieS st i j v) := by
  refine ⟨fun a b ha hb => ?_, fun a ha => ?_⟩
  · obtain ⟨w1, w2, w3⟩ := W.1 a b ha hb
    unfold tieS
    by_cases c : (a = i ∧ b = j) ∨ (a = j ∧ b = i)
    · rw [if_pos c, if_pos (by omega)]; exact ⟨hv.1, hv.2, rfl⟩
    · rw [if_neg c, if_neg (by omega)]; exact ⟨w1, w2, w3⟩
  · unfold tieS
    rw [if_neg (by omega)]
    exact W.2 a ha
theorem Wf.fs {Y : zY} {y : Int32} {N : Nat} {st : zT2} (W : Wf N st) {i j : Nat} (hij : i < j) : Wf N (fsStep Y y i j st) := by
  unfold fsStep
  by_cases c : (yT Y i).toInt = -1
  · rw [if_pos c]; exact W
  · rw [if_neg c]
    by_cases d : (yT Y i).toInt = (yT Y j).toInt
    · rw [if_pos d]; exact W.tie hij (w99_rng _)
    · rw [if_neg d]; exact W
theorem Wf.yr {Y : zY} {y : Int32} {N : Nat} {st : zT2} (W : Wf N st) {i j : Nat} (hij : i < j) : Wf N (yrStep Y y i j st) := W.tie hij (w99_rng _)
theorem Wf.goIn {F : Nat → Nat → zT2 → zT2} {N : Nat} (hF : ∀ i j st, i < j → Wf N st → Wf N (F i j st)) {i : Nat} {st : zT2} (W : Wf N st) : ∀ j, Wf N (fIn F i j st)
  | 0 => W
  | j + 1 => by
    rw [fIn]
    by_cases c : i < j
    · rw [if_pos c]; exact hF i j _ c (Wf.goIn hF W j)
    · rw [if_neg c]; exact Wf.goIn hF W j
theorem Wf.goOut {F : Nat → Nat → zT2 → zT2} {N M : Nat} (hF : ∀ i j st, i < j → Wf N st → Wf N (F i j st)) {st : zT2} (W : Wf N st) : ∀ i, Wf N (fOut F M i st)
  | 0 => W
  | i + 1 => Wf.goIn hF (Wf.goOut hF W i) M
theorem Wf.feast {Y : zY} {y : Int32} {st : zT2} (W : Wf (yN Y) st) : Wf (yN Y) (feastS Y y st) := W.goOut (fun _ _ _ h w => w.fs h) _
theorem Wf.fade {Y : zY} {y : Int32} {st : zT2} (W : Wf (yN Y) st) : Wf (yN Y) (fadeS Y y st) := W.goOut (fun _ _ _ h w => w.yr h) _
/-- numbers and what the rule tells are in range -/
def Yr (Y : zY) : Prop := (∀ i, i < yN Y → 0 ≤ (yB Y i).toInt ∧ (yB Y i).toInt ≤ 9) ∧ ∀ pt nm, 0 ≤ (yE Y pt nm).toInt ∧ (yE Y pt nm).toInt ≤ 60
theorem half_rng {v : Int32} (h : 0 ≤ v.toInt ∧ v.toInt ≤ 60) : 0 ≤ (v / 2).toInt ∧ (v / 2).toInt ≤ 60 := by
  have e : (v / 2).toInt = v.toInt / 2 := by
    rw [Int32.toInt_div, show (2 : Int32).toInt = 2 by decide, Int.tdiv_eq_ediv_of_nonneg h.1]
    exact bm32 (by omega) (by omega)
  rw [e]
  omega
theorem mtV_rng {k n v ap : Int32} (hn : 0 ≤ n.toInt ∧ n.toInt ≤ 9) (hv : 0 ≤ v.toInt ∧ v.toInt ≤ 60) : 0 ≤ (mtV k n v ap).toInt ∧ (mtV k n v ap).toInt ≤ 200 := by
  have h2 : (2 * v).toInt = 2 * v.toInt := i_mul (by decide) rfl (by omega) (by omega)
  have h3 : (2 * v + n).toInt = 2 * v.toInt + n.toInt := i_add h2 rfl (by omega) (by omega)
  have hh := half_rng hv
  have h0 : (0 : Int32).toInt = 0 := ti0
  have h9 : (3 : Int32).toInt = 3 := by decide
  unfold mtV
  repeat' split
  all_goals omega
theorem fdV_rng {k y v : Int32} (hv : 0 ≤ v.toInt ∧ v.toInt ≤ 60) : 0 ≤ (fdV k y v).toInt ∧ (fdV k y v).toInt ≤ 200 := by
  have h1 : (v + 1).toInt = v.toInt + 1 := i_add rfl ti1 (by omega) (by omega)
  have h2 : (2 * (v + 1)).toInt = 2 * (v.toInt + 1) := i_mul (by decide) h1 (by omega) (by omega)
  have hh := half_rng hv
  have h0 : (0 : Int32).toInt = 0 := ti0
  unfold fdV
  repeat' split
  all_goals omega
theorem mtS_rng {Y : zY} (hY : Yr Y) {y : Int32} {st : zT2} {i j : Nat} (hi : i < yN Y) : 0 ≤ (mtS Y y st i j).toInt ∧ (mtS Y y st i j).toInt ≤ 200 := mtV_rng (hY.1 i hi) (hY.2 _ _)
theorem fdS_rng {Y : zY} (hY : Yr Y) {y : Int32} {st : zT2} {i j : Nat} : 0 ≤ (fdS Y y st i j).toInt ∧ (fdS Y y st i j).toInt ≤ 200 := fdV_rng (hY.2 _ _)
theorem w99_min {x : Int32} (h : 0 ≤ x.toInt) : dmin 99 x = w99 x := by
  unfold dmin w99
  have e99 : (99 : Int32).toInt = 99 := by decide
  have lt : x < 99 ↔ x.toInt < 99 := by rw [Int32.lt_iff_toInt_lt, e99]
  by_cases c : x < 99
  · have c' := lt.mp c
    rw [if_pos c, if_neg (show ¬ x.toInt < 0 by omega), if_neg (show ¬ 99 < x.toInt by omega)]
  · have c' : ¬ x.toInt < 99 := fun z => c (lt.mpr z)
    rw [if_neg c, if_neg (show ¬ x.toInt < 0 by omega)]
    by_cases d : 99 < x.toInt
    · rw [if_pos d]
    · rw [if_neg d]
      apply Int32.toInt_inj.mp
      omega
theorem w99_max {x : Int32} (h : x.toInt ≤ 99) : dmax 0 x = w99 x := by
  unfold dmax w99
  have lt : 0 < x ↔ 0 < x.toInt := by rw [Int32.lt_iff_toInt_lt, ti0]
  by_cases c : 0 < x
  · have c' := lt.mp c
    rw [if_pos c, if_neg (by omega), if_neg (by omega)]
  · have c' : ¬ 0 < x.toInt := fun z => c (lt.mpr z)
    rw [if_neg c]
    by_cases d : x.toInt < 0
    · rw [if_pos d]
    · rw [if_neg d, if_neg (by omega)]
      apply Int32.toInt_inj.mp
      rw [ti0]; omega
/-! the class -/
/-- all but a street's names, the piles, its strengths, its YEAR -/
def fFr (a N : Nat) (g h : dH) : Prop := ∀ b k, ¬ b = a + 13 → ¬ (13 ≤ b ∧ b ≤ 33 ∧ b % 4 = 1) → ¬ (a + 5 ≤ b ∧ b < a + 5 + N ∧ k < N) → ¬ (b = a ∧ k = 0) → g b k = h b k
theorem fFr.refl (a N : Nat) (h : dH) : fFr a N h h := fun _ _ _ _ _ _ => rfl
theorem fFr.trans {a N : Nat} {f g h : dH} (q : fFr a N f g) (r : fFr a N g h) : fFr a N f h := fun b k x y z w => (q b k x y z w).trans (r b k x y z w)
theorem nFr.f {a N : Nat} {g h : dH} (q : nFr a g h) : fFr a N g h := fun b k x y _ _ => q b k x y
theorem tie_ok {a : Nat} (ha : zS a) {h : dH} {Y : zY} {y : Int32} {st : zT2} (H : SC a Y y st h) {v1 v2 v3 : Int32} {i j : Nat} (h1 : v1.toInt = i) (h2 : v2.toInt = j) (hi : i < yN Y) (hj : j < yN Y) : Al (f_X3_tie a v1 v2 v3 h) (fun g => SC a Y y (tieS st i j v3) g ∧ fFr a (yN Y) g h) := by
  have z := zS_or ha
  obtain ⟨h0, h1', h2', h3, h4, h5, h6, h7, h8⟩ := H
  have e1 : v1.toInt.toNat = i := by omega
  have e2 : v2.toInt.toNat = j := by omega
  unfold f_X3_tie
  rw [e1, e2]
  refine al_ite (fun _ => al_ite (fun _ => al_oH' (fun g2 q2 => al_ite (fun _ => al_ite (fun _ => al_oH' (fun g q5 => al_some ?_)) (fun _ => al_none)) (fun _ => al_none))) (fun _ => al_none)) (fun _ => al_none)
  have e : ∀ b k, ¬ (a + 5 ≤ b ∧ b < a + 5 + yN Y ∧ k < yN Y) → g b k = h b k := fun b k hb => by rw [q5, dU_ne (by omega), q2, dU_ne (by omega)]
  have t := dtx_or (h a 3)
  have e3 : g a 3 = h a 3 := e a 3 (by omega)
  obtain ⟨c1, c2, c3⟩ := tEv_congr (f := g) (g := h) (ta := dtx (h a 3)) (fun k => e _ k (by omega)) (fun k => e _ k (by omega))
  refine ⟨⟨by rw [e a 0 (by omega)]; exact h0, by rw [e a 1 (by omega)]; exact h1', by rw [e a 2 (by omega)]; exact h2', h3, fun p hp => ?_, fun p q hp hq => ?_, ?_, ?_, ?_⟩, fun b k _ _ x _ => e b k x⟩
  · rw [e (a + 1) p (by omega), e (a + 2) p (by omega), e (a + 3) p (by omega)]; exact h4 p hp
  · unfold tieS
    rw [q5, q2]
    by_cases c : p = j ∧ q = i
    · rw [if_pos (Or.inr c), c.1, c.2, dU_eq]
    · rw [dU_ne (by omega)]
      by_cases d : p = i ∧ q = j
      · rw [if_pos (Or.inl d), d.1, d.2, dU_eq]
      · rw [dU_ne (by omega), if_neg (by omega)]
        exact h5 p q hp hq
  · rw [e3]; exact c1.mpr h6
  · rw [e3]; exact fun nm pt hp => by rw [c2]; exact h7 nm pt hp
  · rw [e3]; exact fun pt nm hp => by rw [c3]; exact h8 pt nm hp
theorem SC.lt {a : Nat} {Y : zY} {y : Int32} {st : zT2} {h : dH} (H : SC a Y y st h) {v : Int32} : v.toInt < (h a 2).toInt ↔ v.toInt < yN Y := by
  rw [H.2.2.1]
theorem inc1 {v : Int32} (h : v.toInt < 1000) : (v + 1).toInt = v.toInt + 1 := by
  have := lt32 v
  exact i_add rfl ti1 (by omega) (by omega)
theorem holdFeast_14 {a : Nat} (ha : zS a) {Y : zY} (hY : Yr Y) {y : Int32} {st : zT2} {k : dH → Option dH} {P : dH → Prop} {v1 : Int32} {i : Nat} (h1 : v1.toInt = i) (hi : i < yN Y) : ∀ (n : Nat) (v2 : Int32) (h : dH), i < v2.toInt → v2.toInt ≤ yN Y → SC a Y y (fIn (fsStep Y y) i v2.toInt.toNat st) h → Wf (yN Y) (fIn (fsStep Y y) i v2.toInt.toNat st) → (∀ g, SC a Y y (fIn (fsStep Y y) i (yN Y) st) g → Wf (yN Y) (fIn (fsStep Y y) i (yN Y) st) → fFr a (yN Y) g h → Al (k g) P) → Al (l_X3_holdFeast_14 a v1 k n v2 h) P
  | 0, _, _, _, _, _, _, _ => al_none
  | n + 1, v2, h, p0, p1, H, W, K => by
    rw [l_X3_holdFeast_14]
    have z := zS_or ha
    obtain ⟨H0, H1, H2, H3, H4, H5, -⟩ := id H
    have e1 : v1.toInt.toNat = i := by omega
    have t2 := inc1 (v := v2) (by omega)
    obtain ⟨j, hj⟩ : ∃ j, v2.toInt.toNat = j := ⟨_, rfl⟩
    have en : (v2 + 1).toInt.toNat = j + 1 := by omega
    rw [hj] at H W H5
    rw [e1, hj, H2]
    have nx : v2.toInt < yN Y → ∀ g, SC a Y y (fsStep Y y i j (fIn (fsStep Y y) i j st)) g → fFr a (yN Y) g h → Al (l_X3_holdFeast_14 a v1 k n (v2 + 1) g) P := by
      intro hlt g Hg hg
      have ei : fIn (fsStep Y y) i (v2 + 1).toInt.toNat st = fsStep Y y i j (fIn (fsStep Y y) i j st) := by rw [en, fIn, if_pos (by omega)]
      refine holdFeast_14 ha hY h1 hi n (v2 + 1) g (by omega) (by omega) (by rw [ei]; exact Hg) (by rw [ei]; exact W.fs (by omega)) (fun g' x1 x2 x3 => K g' x1 x2 (x3.trans hg))
    refine al_ite (fun c => al_ite (fun _ => ?_) (fun _ => al_none)) (fun c => ?_)
    · rw [(H4 i hi).2.2, (H4 j (by omega)).2.2]
      refine al_ite (fun d => nx (by omega) h (by unfold fsStep; rw [if_pos d]; exact H) (fFr.refl _ _ _)) (fun d => al_ite (fun _ => al_ite (fun _ => al_ite (fun d2 => al_oI (fun r12 g13 q13 => al_oI (fun r14 g15 q15 => al_ite (fun _ => al_ite (fun _ => al_oV' (fun g18 q18 => ?_)) (fun _ => al_none)) (fun _ => al_none)))) (fun d2 => nx (by omega) h (by unfold fsStep; rw [if_neg d, if_neg d2]; exact H) (fFr.refl _ _ _))) (fun _ => al_none)) (fun _ => al_none))
      have hjN : j < yN Y := by omega
      have h2j : v2.toInt = j := by omega
      obtain ⟨m1, m2⟩ := meets_ok ha H h1 h2j hi hjN (r12, g13) q13
      simp only at m1 m2
      obtain ⟨m3, m4⟩ := meets_ok ha (H.n ha m2) h2j h1 hjN hi (r14, g15) q15
      simp only at m3 m4
      have m5 := m4.trans m2
      have es : g15 (a + 5 + i) j = fIn (fsStep Y y) i j st i j := by rw [m5 _ _ (by omega) (by omega)]; exact H5 i j hi hjN
      obtain ⟨x1, x2⟩ := tie_ok ha (H.n ha m5) h1 h2j hi hjN g18 q18
      refine nx (by omega) g18 ?_ (x2.trans m5.f)
      unfold fsStep
      rw [if_neg d, if_pos d2]
      have r1 := mtS_rng hY (y := y) (st := fIn (fsStep Y y) i j st) (i := i) (j := j) hi
      have r2 := mtS_rng hY (y := y) (st := fIn (fsStep Y y) i j st) (i := j) (j := i) hjN
      have r3 := W.1 i j hi hjN
      rw [es, m1, m3] at x1
      have s1 : (mtS Y y (fIn (fsStep Y y) i j st) i j + mtS Y y (fIn (fsStep Y y) i j st) j i).toInt = (mtS Y y (fIn (fsStep Y y) i j st) i j).toInt + (mtS Y y (fIn (fsStep Y y) i j st) j i).toInt := i_add rfl rfl (by omega) (by omega)
      have s2 : (fIn (fsStep Y y) i j st i j + (mtS Y y (fIn (fsStep Y y) i j st) i j + mtS Y y (fIn (fsStep Y y) i j st) j i)).toInt = (fIn (fsStep Y y) i j st i j).toInt + ((mtS Y y (fIn (fsStep Y y) i j st) i j).toInt + (mtS Y y (fIn (fsStep Y y) i j st) j i).toInt) := i_add rfl s1 (by omega) (by omega)
      rw [w99_min (by omega)] at x1
      exact x1
    · have ej : j = yN Y := by omega
      rw [ej] at H W
      exact K h H W (fFr.refl _ _ _)
theorem holdFeast_2 {a : Nat} (ha : zS a) {Y : zY} (hY : Yr Y) {y : Int32} {st : zT2} {k : dH → Option dH} {P : dH → Prop} : ∀ (n : Nat) (v1 : Int32) (h : dH), 0 ≤ v1.toInt → v1.toInt ≤ yN Y → SC a Y y (fOut (fsStep Y y) (yN Y) v1.toInt.toNat st) h → Wf (yN Y) (fOut (fsStep Y y) (yN Y) v1.toInt.toNat st) → (∀ g, SC a Y y (feastS Y y st) g → Wf (yN Y) (feastS Y y st) → fFr a (yN Y) g h → Al (k g) P) → Al (l_X3_holdFeast_2 a k n v1 h) P
  | 0, _, _, _, _, _, _, _ => al_none
  | n + 1, v1, h, p0, p1, H, W, K => by
    rw [l_X3_holdFeast_2]
    have hN := H.2.2.2.1
    have t1 := inc1 (v := v1) (by omega)
    refine al_ite (fun c => ?_) (fun c => ?_)
    · have c' := H.lt.mp c
      have e2 : (v1 + 1).toInt.toNat = v1.toInt.toNat + 1 := by omega
      have el : fIn (fsStep Y y) v1.toInt.toNat (v1 + 1).toInt.toNat (fOut (fsStep Y y) (yN Y) v1.toInt.toNat st) = fOut (fsStep Y y) (yN Y) v1.toInt.toNat st := fIn_le _ (by omega)
      have eo : fIn (fsStep Y y) v1.toInt.toNat (yN Y) (fOut (fsStep Y y) (yN Y) v1.toInt.toNat st) = fOut (fsStep Y y) (yN Y) (v1 + 1).toInt.toNat st := by rw [e2]; rfl
      refine holdFeast_14 ha hY (i := v1.toInt.toNat) (by omega) (by omega) _ (v1 + 1) h (by omega) (by omega) (by rw [el]; exact H) (by rw [el]; exact W) (fun g x1 x2 x3 => ?_)
      rw [eo] at x1 x2
      exact holdFeast_2 ha hY n (v1 + 1) g (by omega) (by omega) x1 x2 (fun g' z1 z2 z3 => K g' z1 z2 (z3.trans x3))
    · have c' : ¬ v1.toInt < yN Y := fun z => c (H.lt.mpr z)
      have ej : v1.toInt.toNat = yN Y := by omega
      rw [ej] at H W
      exact K h H W (fFr.refl _ _ _)
theorem holdFeast_ok {a : Nat} (ha : zS a) {Y : zY} (hY : Yr Y) {y : Int32} {st : zT2} {h : dH} (H : SC a Y y st h) (W : Wf (yN Y) st) : Al (f_X3_holdFeast a h) (fun g => SC a Y y (feastS Y y st) g ∧ Wf (yN Y) (feastS Y y st) ∧ fFr a (yN Y) g h) :=
  holdFeast_2 ha hY _ 0 h (by decide) (by rw [ti0]; omega) H W (fun g x1 x2 x3 => al_some ⟨x1, x2, x3⟩)
theorem endYear_14 {a : Nat} (ha : zS a) {Y : zY} (hY : Yr Y) {y : Int32} {st : zT2} {k : dH → Option dH} {P : dH → Prop} {v1 : Int32} {i : Nat} (h1 : v1.toInt = i) (hi : i < yN Y) : ∀ (n : Nat) (v2 : Int32) (h : dH), i < v2.toInt → v2.toInt ≤ yN Y → SC a Y y (fIn (yrStep Y y) i v2.toInt.toNat st) h → Wf (yN Y) (fIn (yrStep Y y) i v2.toInt.toNat st) → (∀ g, SC a Y y (fIn (yrStep Y y) i (yN Y) st) g → Wf (yN Y) (fIn (yrStep Y y) i (yN Y) st) → fFr a (yN Y) g h → Al (k g) P) → Al (l_X3_endYear_14 a v1 k n v2 h) P
  | 0, _, _, _, _, _, _, _ => al_none
  | n + 1, v2, h, p0, p1, H, W, K => by
    rw [l_X3_endYear_14]
    have z := zS_or ha
    obtain ⟨H0, H1, H2, H3, H4, H5, -⟩ := id H
    have e1 : v1.toInt.toNat = i := by omega
    have t2 := inc1 (v := v2) (by omega)
    obtain ⟨j, hj⟩ : ∃ j, v2.toInt.toNat = j := ⟨_, rfl⟩
    have en : (v2 + 1).toInt.toNat = j + 1 := by omega
    rw [hj] at H W H5
    rw [e1, hj, H2]
    have nx : v2.toInt < yN Y → ∀ g, SC a Y y (yrStep Y y i j (fIn (yrStep Y y) i j st)) g → fFr a (yN Y) g h → Al (l_X3_endYear_14 a v1 k n (v2 + 1) g) P := by
      intro hlt g Hg hg
      have ei : fIn (yrStep Y y) i (v2 + 1).toInt.toNat st = yrStep Y y i j (fIn (yrStep Y y) i j st) := by rw [en, fIn, if_pos (by omega)]
      refine endYear_14 ha hY h1 hi n (v2 + 1) g (by omega) (by omega) (by rw [ei]; exact Hg) (by rw [ei]; exact W.yr (by omega)) (fun g' x1 x2 x3 => K g' x1 x2 (x3.trans hg))
    refine al_ite (fun c => al_oI (fun r12 g13 q13 => al_oI (fun r14 g15 q15 => al_ite (fun _ => al_ite (fun _ => al_oV' (fun g18 q18 => ?_)) (fun _ => al_none)) (fun _ => al_none)))) (fun c => ?_)
    · have hjN : j < yN Y := by omega
      have h2j : v2.toInt = j := by omega
      obtain ⟨m1, m2⟩ := forgets_ok ha H h1 h2j hi hjN (r12, g13) q13
      simp only at m1 m2
      obtain ⟨m3, m4⟩ := forgets_ok ha (H.n ha m2) h2j h1 hjN hi (r14, g15) q15
      simp only at m3 m4
      have m5 := m4.trans m2
      have es : g15 (a + 5 + i) j = fIn (yrStep Y y) i j st i j := by rw [m5 _ _ (by omega) (by omega)]; exact H5 i j hi hjN
      obtain ⟨x1, x2⟩ := tie_ok ha (H.n ha m5) h1 h2j hi hjN g18 q18
      refine nx (by omega) g18 ?_ (x2.trans m5.f)
      unfold yrStep
      have r1 := fdS_rng hY (y := y) (st := fIn (yrStep Y y) i j st) (i := i) (j := j)
      have r2 := fdS_rng hY (y := y) (st := fIn (yrStep Y y) i j st) (i := j) (j := i)
      have r3 := W.1 i j hi hjN
      rw [es, m1, m3] at x1
      have s1 : (fdS Y y (fIn (yrStep Y y) i j st) i j + fdS Y y (fIn (yrStep Y y) i j st) j i).toInt = (fdS Y y (fIn (yrStep Y y) i j st) i j).toInt + (fdS Y y (fIn (yrStep Y y) i j st) j i).toInt := i_add rfl rfl (by omega) (by omega)
      have s2 : (fIn (yrStep Y y) i j st i j - (fdS Y y (fIn (yrStep Y y) i j st) i j + fdS Y y (fIn (yrStep Y y) i j st) j i)).toInt = (fIn (yrStep Y y) i j st i j).toInt - ((fdS Y y (fIn (yrStep Y y) i j st) i j).toInt + (fdS Y y (fIn (yrStep Y y) i j st) j i).toInt) := i_sub rfl s1 (by omega) (by omega)
      rw [w99_max (by omega)] at x1
      exact x1
    · have ej : j = yN Y := by omega
      rw [ej] at H W
      exact K h H W (fFr.refl _ _ _)
theorem endYear_2 {a : Nat} (ha : zS a) {Y : zY} (hY : Yr Y) {y : Int32} {st : zT2} {k : dH → Option dH} {P : dH → Prop} : ∀ (n : Nat) (v1 : Int32) (h : dH), 0 ≤ v1.toInt → v1.toInt ≤ yN Y → SC a Y y (fOut (yrStep Y y) (yN Y) v1.toInt.toNat st) h → Wf (yN Y) (fOut (yrStep Y y) (yN Y) v1.toInt.toNat st) → (∀ g, SC a Y y (fadeS Y y st) g → Wf (yN Y) (fadeS Y y st) → fFr a (yN Y) g h → Al (k g) P) → Al (l_X3_endYear_2 a k n v1 h) P
  | 0, _, _, _, _, _, _, _ => al_none
  | n + 1, v1, h, p0, p1, H, W, K => by
    rw [l_X3_endYear_2]
    have hN := H.2.2.2.1
    have t1 := inc1 (v := v1) (by omega)
    refine al_ite (fun c => ?_) (fun c => ?_)
    · have c' := H.lt.mp c
      have e2 : (v1 + 1).toInt.toNat = v1.toInt.toNat + 1 := by omega
      have el : fIn (yrStep Y y) v1.toInt.toNat (v1 + 1).toInt.toNat (fOut (yrStep Y y) (yN Y) v1.toInt.toNat st) = fOut (yrStep Y y) (yN Y) v1.toInt.toNat st := fIn_le _ (by omega)
      have eo : fIn (yrStep Y y) v1.toInt.toNat (yN Y) (fOut (yrStep Y y) (yN Y) v1.toInt.toNat st) = fOut (yrStep Y y) (yN Y) (v1 + 1).toInt.toNat st := by rw [e2]; rfl
      refine endYear_14 ha hY (i := v1.toInt.toNat) (by omega) (by omega) _ (v1 + 1) h (by omega) (by omega) (by rw [el]; exact H) (by rw [el]; exact W) (fun g x1 x2 x3 => ?_)
      rw [eo] at x1 x2
      exact endYear_2 ha hY n (v1 + 1) g (by omega) (by omega) x1 x2 (fun g' z1 z2 z3 => K g' z1 z2 (z3.trans x3))
    · have c' : ¬ v1.toInt < yN Y := fun z => c (H.lt.mpr z)
      have ej : v1.toInt.toNat = yN Y := by omega
      rw [ej] at H W
      exact K h H W (fFr.refl _ _ _)
/-- YEAR alone -/
theorem SC.year {a : Nat} (ha : zS a) {Y : zY} {y x : Int32} {st : zT2} {h : dH} (H : SC a Y y st h) : SC a Y x st (dU h a 0 x) := by
  have z := zS_or ha
  obtain ⟨h0, h1, h2, h3, h4, h5, h6, h7, h8⟩ := H
  have e : ∀ b k, ¬ (b = a ∧ k = 0) → dU h a 0 x b k = h b k := fun b k q => dU_ne q
  have t := dtx_or (h a 3)
  have e3 := e a 3 (by omega)
  obtain ⟨c1, c2, c3⟩ := tEv_congr (f := dU h a 0 x) (g := h) (ta := dtx (h a 3)) (fun k => e _ k (by omega)) (fun k => e _ k (by omega))
  refine ⟨dU_eq, by rw [e a 1 (by omega)]; exact h1, by rw [e a 2 (by omega)]; exact h2, h3, fun i hi => ?_, fun i j hi hj => ?_, ?_, ?_, ?_⟩
  · rw [e (a + 1) i (by omega), e (a + 2) i (by omega), e (a + 3) i (by omega)]; exact h4 i hi
  · rw [e (a + 5 + i) j (by omega)]; exact h5 i j hi hj
  · rw [e3]; exact c1.mpr h6
  · rw [e3]; exact fun nm pt hp => by rw [c2]; exact h7 nm pt hp
  · rw [e3]; exact fun pt nm hp => by rw [c3]; exact h8 pt nm hp
theorem endYear_ok {a : Nat} (ha : zS a) {Y : zY} (hY : Yr Y) {y : Int32} {st : zT2} {h : dH} (H : SC a Y y st h) (W : Wf (yN Y) st) : Al (f_X3_endYear a h) (fun g => SC a Y (y + 1) (fadeS Y y st) g ∧ Wf (yN Y) (fadeS Y y st) ∧ fFr a (yN Y) g h) := by
  refine endYear_2 ha hY _ 0 h (by decide) (by rw [ti0]; omega) H W (fun g x1 x2 x3 => al_oH' (fun g2 q2 => al_some ?_))
  have e0 : g a 0 = y := x1.1
  rw [e0] at q2
  refine ⟨by rw [q2]; exact x1.year ha, x2, fun b k n1 n2 n3 n4 => ?_⟩
  rw [q2, dU_ne n4]
  exact x3 b k n1 n2 n3 n4
end
end
