/-! numbers, names, minus, brackets: both alike -/
noncomputable section
def tAtom (E A : dH → Option (Int32 × dH)) (h : dH) : Option (Int32 × dH) := oP (f_X7_isSign 45 h) (fun r1 => if r1.toInt = 0 then (oP (f_X7_isSign 40 h) (fun r4 => if r4.toInt = 0 then (if (h 0 27).toInt = 0 then (if (h 0 23).toInt = 2 then (oV (f_X7_next  h) (fun g11 => some ((h 0 25).toInt64.toInt32, g11))) else (if (h 0 27).toInt = 0 then (if (h 0 23).toInt = 1 then (oI (f_X7_name  h) (fun r16 g17 => if (g17 0 27).toInt = 0 then (oV (f_X7_next  g17) (fun g20 => some (r16, g20))) else (some (r16, g17)))) else (oV (f_X7_fail  h) (fun g21 => some (0, g21)))) else (oV (f_X7_fail  h) (fun g22 => some (0, g22))))) else (if (h 0 27).toInt = 0 then (if (h 0 23).toInt = 1 then (oI (f_X7_name  h) (fun r27 g28 => if (g28 0 27).toInt = 0 then (oV (f_X7_next  g28) (fun g31 => some (r27, g31))) else (some (r27, g28)))) else (oV (f_X7_fail  h) (fun g32 => some (0, g32)))) else (oV (f_X7_fail  h) (fun g33 => some (0, g33))))) else (oI (f_X7_opens  h) (fun r34 g35 => if r34.toInt = 0 then (some (0, g35)) else (oI (E  g35) (fun r38 g39 => oP (f_X7_isSign 41 g39) (fun r40 => if r40.toInt = 0 then (oV (f_X7_fail  g39) (fun g43 => oH (dU g43 0 26 ((g43 0 26) - 1)) (fun g44 => if (g44 0 27).toInt = 0 then (oV (f_X7_next  g44) (fun g47 => some (r38, g47))) else (some (r38, g44))))) else (oH (dU g39 0 26 ((g39 0 26) - 1)) (fun g48 => if (g48 0 27).toInt = 0 then (oV (f_X7_next  g48) (fun g51 => some (r38, g51))) else (some (r38, g48))))))))))) else (oI (f_X7_opens  h) (fun r52 g53 => if r52.toInt = 0 then (some (0, g53)) else (oI (A  g53) (fun r56 g57 => oH (dU g57 0 26 ((g57 0 26) - 1)) (fun g58 => some ((-r56), g58)))))))
theorem atom0_t (h : dH) : f_X7_atom0 h = tAtom f_X7_either1 f_X7_atom1 h := rfl
theorem atom1_t (h : dH) : f_X7_atom1 h = tAtom f_X7_either2 f_X7_atom2 h := rfl
theorem atom2_t (h : dH) : f_X7_atom2 h = tAtom f_X7_either3 f_X7_atom3 h := rfl
theorem atom3_t (h : dH) : f_X7_atom3 h = tAtom f_X7_either4 f_X7_atom4 h := rfl
theorem atom4_t (h : dH) : f_X7_atom4 h = tAtom f_X7_either5 f_X7_atom5 h := rfl
section PR
variable {B : Nat → Int} {N : Nat} {P : Nat → Nat} {n : Nat} {i k : Nat} {c : Int} {s e : Nat} {w : Int} {g h : dH}
theorem Good.here (G : Good B N P n i c s e w g h) (hc : c = 302 ∨ (303 ≤ c ∧ c ≤ 309) ∨ isSg c) : (h 0 22).toInt = e := by
  have m2 := G.2.2.2.2.2.2.2.2.2.2.2.2.2.1.2
  unfold isSg at m2 hc
  omega
/-- the answer of a fault on both sides -/
theorem Out.bad {D : Nat} {f m : dH} {v : Int32} (p : pF f g) (q : mSame m h) (r : (m 0 26).toInt = k) (b : Bad f m) : Out B N P n k D i g h f (v, m) := ⟨p, q, r, Or.inl b⟩
theorem Bad.cb {f m : dH} (b : Bad f m) : cBad f := ⟨b.1, b.2.2.2⟩
/-- a fault that is kept -/
theorem Bad.stay {f f' m : dH} (b : Bad f m) (q : cStay f' f) : Bad f' m := ⟨by rw [q.2.1]; exact b.1, b.2.1, by rw [q.2.1]; exact b.2.2.1, q.2.2.2⟩
/-- a step written behind a piece -/
theorem Wr.of {f g1 : dH} {x : Int32} (h0 : 0 ≤ (f (rT f) 1).toInt) (h1 : rZ f < 160) (hw : f_X5_write (dtx (f 42 1)) x f = some g1) : Wr x f g1 ∧ pF g1 f ∧ (∀ k, g1 42 k = f 42 k) ∧ 0 ≤ (g1 (rT g1) 1).toInt := by
  obtain ⟨w1, w2, w3, w4, w5, w6⟩ := write_ok h0 h1 g1 hw
  exact ⟨⟨w3, w5, w6⟩, w1, w2, by rw [w1.tx]; exact w4⟩
/-- a step, be there room or not -/
theorem write_any {g : dH} {x : Int32} : Al (f_X5_write (dtx (g 42 1)) x g) (fun f => pF f g ∧ ∀ k, f 42 k = g 42 k) := by
  have ht := rT_or g
  unfold f_X5_write
  refine al_ite (fun c => al_ite (fun c1 => al_oH' (fun g1 hg1 => al_oH' (fun g2 hg2 => al_some ⟨fun a k a1 a2 a3 => ?_, fun k => ?_⟩))) (fun _ => al_none)) (fun c => al_some ⟨pF.refl g, fun _ => rfl⟩)
  · rw [hg2, dU_ne (by unfold rT at a2; exact a2), hg1, dU_ne (by unfold rT at a3; omega)]
  · rw [hg2, dU_ne (by unfold rT at ht; omega), hg1, dU_ne (by unfold rT at ht; omega)]
theorem Bad.eq {f f' m m' : dH} (b : Bad f m) (q : ∀ k, f' 42 k = f 42 k) (r : ∀ j, ¬ j = 26 → m' 0 j = m 0 j) : Bad f' m' := by
  unfold Bad at b ⊢
  rw [q, q, r 27 (by omega), r 28 (by omega)]
  exact b
theorem Good.wr {g1 : dH} (G : Good B N P n i c s e w g h) (p : pF g1 g) (q : ∀ k, g1 42 k = g 42 k) : Good B N P n i c s e w g1 h := by
  obtain ⟨t, o, hB, hN, hb, b4, b27, hi, g2, g3, tk, gs, gw, mt, hn⟩ := G
  exact ⟨t.same p.rows, o, hB, hN, hb, by rw [q]; exact b4, b27, hi, by rw [q]; exact g2, by rw [q]; exact g3, tk, by rw [p.rows 3 i (by omega)]; exact gs, fun z => by rw [p.rows 4 i (by omega)]; exact gw z, mt, hn⟩
/-- what the class does with its token, behind an opening sign -/
theorem one_minus {m : Nat} (hk : k < 5) {A : dH → Option (Int32 × dH)} (hA : ∀ (n' : Nat) (v : Int32) (g h : dH) (i : Nat) (f : dH) (o : Int32 × dH), v.toInt = k + 1 → St B N P n (k + 1) i g h → f_X1_readOne (f_X1_read m) n' v g = some f → A h = some o → Out B N P n (k + 1) (1 + 5 * (5 - (k + 1))) i g h f o) (hs : St B N P n k i g h) (G : Good B N P n i 45 s e w g h) {n' : Nat} {v : Int32} (hv : v.toInt = k) : Al (oI (f_X1_opens v g) (fun r13 g14 => if r13.toInt = 0 then (some g14) else (oV (f_X1_readOne (f_X1_read m) n' (v + 1) g14) (fun g17 => oV (f_X5_write (dtx (g17 42 1)) (-15) g17) (fun g18 => some g18))))) (fun f => ∀ o, oI (f_X7_opens h) (fun r52 g53 => if r52.toInt = 0 then (some (0, g53)) else (oI (A g53) (fun r56 g57 => oH (dU g57 0 26 ((g57 0 26) - 1)) (fun g58 => some ((-r56), g58))))) = some o → Out B N P n k (1 + 5 * (5 - k)) i g h f o) := by
  have he := G.here (Or.inr (Or.inr (by unfold isSg; omega)))
  refine al_oI (fun a g14 ha => ?_)
  intro f hf
  refine al_oI (fun b g53 hb => ?_)
  obtain ⟨r, mm, q⟩ := opens_ok hs G (by omega) he (by omega) hv ha hb
  simp only at r mm q
  rcases q with ⟨k1, a1, b1, S1⟩ | ⟨k1, -⟩
  · rw [if_neg (by omega)] at hf
    rw [if_neg (by omega)]
    have tv : (v + 1).toInt = (k : Int) + 1 := i_add hv (by decide) (by omega) (by omega)
    refine al_oI (fun r56 g57 h57 => al_oH' (fun g58 h58 => al_some ?_))
    revert f
    refine al_oV' (fun g17 h17 => al_oV' (fun g18 h18 => al_some ?_))
    have O := hA n' (v + 1) g14 g53 (i + 1) g17 (r56, g57) (by rw [tv]) S1 h17 h57
    obtain ⟨o1, o2, o3, o4⟩ := O
    simp only at o2 o3 o4
    have m58 : mSame g58 h := by rw [h58]; exact (mSame.up (by omega)).trans (o2.trans mm)
    have k58 : (g58 0 26).toInt = k := by
      rw [h58, dU_eq]
      have := i_sub (a := g57 0 26) (b := 1) o3 (by decide) (B := 1) (by omega) (by omega)
      rw [this]; omega
    have u58 : ∀ j, ¬ j = 26 → g58 0 j = g57 0 j := fun j hj => by rw [h58]; exact dU_ne (by omega)
    rcases o4 with bd | ⟨i', S2, hi, hz, em⟩
    · obtain ⟨p, q⟩ := write_any g18 h18
      exact Out.bad (p.trans (o1.trans r.pF)) m58 k58 (bd.eq q u58)
    · obtain ⟨⟨c', s', e', w', G2⟩, z2, z20, z26⟩ := S2
      have tn := G2.1.2.1
      have hin := G2.2.2.2.2.2.2.2.1
      have hz0 := hs.2.1
      have e14 := r.same.2.1
      obtain ⟨wr, p, q, y0⟩ := Wr.of z20 (by omega) h18
      have em1 : Em (nmF h) (1 + 5 * (5 - (k + 1))) r56 g g17 := (em.nm mm.nm).left r
      have em2 := (em1.un wr (by decide)).mono (show 1 + 5 * (5 - (k + 1)) ≤ 1 + 5 * (5 - k) by omega)
      rw [show trn (-15) r56 = -r56 from if_pos (by decide)] at em2
      have G3 := (G2.wr p q).up26 ((g57 0 26) - 1)
      rw [← h58] at G3
      refine ⟨p.trans (o1.trans r.pF), m58, k58, Or.inr ⟨i', ⟨⟨c', s', e', w', G3⟩, ?_, y0, k58⟩, by omega, ?_, em2⟩⟩
      · rw [wr.1]; omega
      · rw [wr.1]; omega
  · omega
/-- in brackets -/
theorem one_paren {m : Nat} (hk : k < 5) {E : dH → Option (Int32 × dH)} (hE : ∀ (v1 v2 : Int32) (g h : dH) (i : Nat) (f : dH) (o : Int32 × dH), v1.toInt = 0 → v2.toInt = k + 1 → St B N P n (k + 1) i g h → f_X1_read m v1 v2 g = some f → E h = some o → Out B N P n (k + 1) (6 + 5 * (5 - (k + 1))) i g h f o) (hs : St B N P n k i g h) (G : Good B N P n i 40 s e w g h) {v : Int32} (hv : v.toInt = k) : Al (oI (f_X1_opens v g) (fun r21 g22 => if r21.toInt = 0 then (some g22) else (oV (f_X1_read m 0 (v + 1) g22) (fun g25 => oV (f_X1_expect 41 g25) (fun g26 => some g26))))) (fun f => ∀ o, oI (f_X7_opens h) (fun r34 g35 => if r34.toInt = 0 then (some (0, g35)) else (oI (E g35) (fun r38 g39 => oP (f_X7_isSign 41 g39) (fun r40 => if r40.toInt = 0 then (oV (f_X7_fail g39) (fun g43 => oH (dU g43 0 26 ((g43 0 26) - 1)) (fun g44 => if (g44 0 27).toInt = 0 then (oV (f_X7_next g44) (fun g47 => some (r38, g47))) else (some (r38, g44))))) else (oH (dU g39 0 26 ((g39 0 26) - 1)) (fun g48 => if (g48 0 27).toInt = 0 then (oV (f_X7_next g48) (fun g51 => some (r38, g51))) else (some (r38, g48)))))))) = some o → Out B N P n k (1 + 5 * (5 - k)) i g h f o) := by
  have he := G.here (Or.inr (Or.inr (by unfold isSg; omega)))
  refine al_oI (fun a g22 ha => ?_)
  intro f hf
  refine al_oI (fun b g35 hb => ?_)
  obtain ⟨r, mm, q⟩ := opens_ok hs G (by omega) he (by omega) hv ha hb
  simp only at r mm q
  rcases q with ⟨k1, a1, b1, S1⟩ | ⟨k1, -⟩
  · rw [if_neg (by omega)] at hf
    rw [if_neg (by omega)]
    have tv : (v + 1).toInt = (k : Int) + 1 := i_add hv (by decide) (by omega) (by omega)
    refine al_oI (fun r38 g39 h39 => al_oP (fun r40 h40 => ?_))
    revert f
    refine al_oV' (fun g25 h25 => al_oV' (fun g26 h26 => al_some ?_))
    obtain ⟨o1, o2, o3, o4⟩ := hE 0 (v + 1) g22 g35 (i + 1) g25 (r38, g39) ti0 (by rw [tv]) S1 h25 h39
    simp only at o2 o3 o4
    have m39 : mSame g39 h := o2.trans mm
    -- one fewer is open
    have dn : ∀ x y : dH, (x 0 26).toInt = (k : Int) + 1 → y = dU x 0 26 ((x 0 26) - 1) → (y 0 26).toInt = k ∧ (∀ j, ¬ j = 26 → y 0 j = x 0 j) ∧ mSame y x := by
      intro x y hx hy
      refine ⟨?_, fun j hj => by rw [hy]; exact dU_ne (by omega), by rw [hy]; exact mSame.up (by omega)⟩
      rw [hy, dU_eq]
      have := i_sub (a := x 0 26) (b := 1) hx (by decide) (B := 1) (by omega) (by omega)
      rw [this]; omega
    rcases o4 with bd | ⟨i', S2, hi, hz, em⟩
    · -- the fault is in the brackets
      have c26 := cbad_expect bd.cb (by decide) g26 h26
      have r0 := bad_sign (v := 41) bd.2.1 r40 h40
      rw [if_pos r0]
      refine al_oV' (fun g43 h43 => al_oH' (fun g44 h44 => ?_))
      have e43 := bad_fail bd.2.1 g43 h43
      rw [e43] at h44
      obtain ⟨d1, d2, d3⟩ := dn g39 g44 o3 h44
      rw [if_neg (by rw [d2 27 (by omega)]; exact bd.2.1)]
      exact al_some (Out.bad (c26.1.pF.trans (o1.trans r.pF)) (d3.trans m39) d1 ((bd.stay c26).eq (fun _ => rfl) d2))
    · obtain ⟨⟨c', s', e', w', G2⟩, z2, z20, z26⟩ := S2
      have hz0 := hs.2.1
      have e22 := r.same.2.1
      have sg := G2.sign (v := 41) (by unfold isSg; decide) r40 h40
      have t41 : (41 : Int32).toInt = 41 := by decide
      rw [t41] at sg
      have G23 := G2.2.2.2.2.2.2.2.2.2.1
      have hx : Al (f_X1_expect 41 g25) (fun f => (c' = 41 ∧ f_X1_next g25 = some f) ∨ (¬ c' = 41 ∧ f_X1_fail g25 = some f)) := by
        unfold f_X1_expect
        exact al_ite (fun z => al_oV' (fun f hf => al_some (Or.inl ⟨by omega, hf⟩))) (fun z => al_oV' (fun f hf => al_some (Or.inr ⟨by omega, hf⟩)))
      have em1 : Em (nmF h) (6 + 5 * (5 - (k + 1))) r38 g g25 := (em.nm mm.nm).left r
      have em2 := em1.mono (show 6 + 5 * (5 - (k + 1)) ≤ 1 + 5 * (5 - k) by omega)
      rcases sg with ⟨q1, q2, q3⟩ | ⟨q1, q2⟩
      · rcases hx g26 h26 with ⟨x1, x2⟩ | ⟨x1, -⟩
        · rw [if_neg (by omega)]
          refine al_oH' (fun g48 h48 => ?_)
          obtain ⟨d1, d2, d3⟩ := dn g39 g48 z26 h48
          have G3 := G2.up26 ((g39 0 26) - 1)
          rw [← h48] at G3
          rw [if_pos (by rw [d2 27 (by omega)]; exact G2.2.2.2.2.2.2.1)]
          refine al_oV' (fun g51 h51 => al_some ?_)
          obtain ⟨⟨c3, s3, e3, w3, G4⟩, r2, m2, k26⟩ := G3.next (by omega) (by rw [d2 22 (by omega)]; exact q3) x2 h51
          have k51 : (g51 0 26).toInt = k := by rw [k26]; exact d1
          refine ⟨r2.pF.trans (o1.trans r.pF), m2.trans (d3.trans m39), k51, Or.inr ⟨i' + 1, ⟨⟨c3, s3, e3, w3, G4⟩, by rw [r2.same.2.1]; omega, by rw [r2.size]; exact z20, k51⟩, by omega, by rw [r2.same.2.1]; omega, em2.right r2⟩⟩
        · exact absurd q2 x1
      · rcases hx g26 h26 with ⟨x1, -⟩ | ⟨x1, x2⟩
        · exact absurd x1 q2
        · rw [if_pos q1]
          refine al_oV' (fun g43 h43 => al_oH' (fun g44 h44 => ?_))
          obtain ⟨b1', b2', b3', b4'⟩ := G2.fail x2 h43
          obtain ⟨d1, d2, d3⟩ := dn g43 g44 (by rw [b4']; exact z26) h44
          rw [if_neg (by rw [d2 27 (by omega)]; exact b1'.2.1)]
          exact al_some (Out.bad (b2'.pF.trans (o1.trans r.pF)) (d3.trans (b3'.trans m39)) d1 (b1'.eq (fun _ => rfl) d2))
  · omega
end PR

section PR
variable {B : Nat → Int} {N : Nat} {P : Nat → Nat} {n : Nat} {i k : Nat} {c : Int} {s e : Nat} {w : Int} {g h : dH}
/-- what the class does at its token -/
theorem one_cls (G : Good B N P n i c s e w g h) {rec : Int32 → Int32 → dH → Option dH} {n' : Nat} {v : Int32} : Al (f_X1_readOne rec (n' + 1) v g) (fun f => ((c = 302 ∨ c = 303) ∧ ∃ g4, f_X5_write (dtx (g 42 1)) (g 4 i) g = some g4 ∧ f_X1_next g4 = some f) ∨ (c = 45 ∧ oI (f_X1_opens v g) (fun r13 g14 => if r13.toInt = 0 then (some g14) else (oV (f_X1_readOne rec n' (v + 1) g14) (fun g17 => oV (f_X5_write (dtx (g17 42 1)) (-15) g17) (fun g18 => some g18)))) = some f) ∨ (c = 40 ∧ oI (f_X1_opens v g) (fun r21 g22 => if r21.toInt = 0 then (some g22) else (oV (rec 0 (v + 1) g22) (fun g25 => oV (f_X1_expect 41 g25) (fun g26 => some g26)))) = some f) ∨ (¬ c = 302 ∧ ¬ c = 303 ∧ ¬ c = 45 ∧ ¬ c = 40 ∧ f_X1_fail g = some f)) := by
  have g2 := G.2.2.2.2.2.2.2.2.1
  have g3 := G.2.2.2.2.2.2.2.2.2.1
  rw [f_X1_readOne]
  have ei : (g 42 2).toInt.toNat = i := by omega
  rw [ei]
  refine al_ite (fun z => al_ite (fun _ => al_oV' (fun g4 h4 => al_oV' (fun g5 h5 => al_some (Or.inl ⟨by omega, g4, h4, h5⟩)))) (fun _ => al_none)) (fun z1 => al_ite (fun z => al_ite (fun _ => al_oV' (fun g4 h4 => al_oV' (fun g5 h5 => al_some (Or.inl ⟨by omega, g4, h4, h5⟩)))) (fun _ => al_none)) (fun z2 => al_ite (fun z => ?_) (fun z3 => al_ite (fun z => ?_) (fun z4 => al_oV' (fun f hf => al_some (Or.inr (Or.inr (Or.inr ⟨by omega, by omega, by omega, by omega, hf⟩))))))))
  · intro f hf
    exact Or.inr (Or.inl ⟨by omega, hf⟩)
  · intro f hf
    exact Or.inr (Or.inr (Or.inl ⟨by omega, hf⟩))
/-- a number -/
theorem num_case (hs : St B N P n k i g h) (G : Good B N P n i c s e w g h) (h23 : (h 0 23).toInt = 2) {f : dH} (cl : (c = 302 ∨ c = 303) → ∃ g4, f_X5_write (dtx (g 42 1)) (g 4 i) g = some g4 ∧ f_X1_next g4 = some f) : Al (oV (f_X7_next h) (fun g11 => some ((h 0 25).toInt64.toInt32, g11))) (fun o => Out B N P n k 1 i g h f o) := by
  have m2 := G.2.2.2.2.2.2.2.2.2.2.2.2.2.1.2
  have hc : c = 302 ∧ (h 0 22).toInt = e ∧ (h 0 25).toInt = w := by omega
  obtain ⟨g4, w1, w2⟩ := cl (Or.inl hc.1)
  have hx : (g 4 i).toInt = w := G.2.2.2.2.2.2.2.2.2.2.2.2.1 (Or.inl hc.1)
  refine al_oV' (fun m hm => al_some (lit_ok hs G hc.2.1 hx (Or.inl ⟨hc.1, ?_⟩) w1 w2 hm))
  have e9 : (h 0 25).toInt64.toInt32 = h 0 25 := by
    apply Int32.toInt_inj.mp
    rw [Int64.toInt_toInt32, l_i2l]
    exact bm32 (Int32.le_toInt _) (Int32.toInt_lt _)
  rw [e9]
  exact hc.2.2
/-- a word -/
theorem word_case (hs : St B N P n k i g h) (G : Good B N P n i c s e w g h) (h23 : (h 0 23).toInt = 1) {f : dH} (cl : (c = 302 ∨ c = 303) → ∃ g4, f_X5_write (dtx (g 42 1)) (g 4 i) g = some g4 ∧ f_X1_next g4 = some f) (cf : ¬ c = 302 → ¬ c = 303 → ¬ c = 45 → ¬ c = 40 → f_X1_fail g = some f) : Al (oI (f_X7_name h) (fun r16 g17 => if (g17 0 27).toInt = 0 then (oV (f_X7_next g17) (fun g20 => some (r16, g20))) else (some (r16, g17)))) (fun o => Out B N P n k 1 i g h f o) := by
  have m2 := G.2.2.2.2.2.2.2.2.2.2.2.2.2.1.2
  have hc : c = 301 ∨ (303 ≤ c ∧ c ≤ 309) := by omega
  have h26 := hs.2.2.2
  refine al_oI (fun r g17 hr => ?_)
  rcases G.name (r, g17) hr with ⟨j, j1, j2, j3, j4, j5⟩ | ⟨j1, j2⟩
  · cases j5
    obtain ⟨g4, w1, w2⟩ := cl (Or.inr j2)
    have hx : (g 4 i).toInt = w := G.2.2.2.2.2.2.2.2.2.2.2.2.1 (Or.inr j2)
    refine al_ite (fun _ => al_oV' (fun m hm => al_some (lit_ok hs G j4 hx (Or.inr ⟨j, j1, j2, j3, rfl⟩) w1 w2 hm))) (fun z => absurd G.2.2.2.2.2.2.1 z)
  · have hb := G.2.2.2.2.1
    have n303 : ¬ c = 303 := by
      intro z
      obtain ⟨a1, a2⟩ := G.2.2.2.2.2.2.2.2.2.2.1.word' (by omega) (fun j hj => (hb j hj).2)
      rcases G.2.2.2.2.2.2.2.2.2.2.1.word a1 a2 with ⟨j, q1, -, q3, q4⟩ | ⟨j, q1, -, q3⟩ | ⟨-, q3⟩
      · exact j1 j q1 ⟨q3, q4⟩
      · omega
      · omega
    obtain ⟨b1, b2, b3, b4⟩ := G.fail (cf (by omega) n303 (by omega) (by omega)) j2
    simp only at b1 b3 b4
    rw [if_neg b1.2.1]
    have k17 : (g17 0 26).toInt = k := by rw [b4]; exact h26
    exact al_some (Out.bad b2.pF b3 k17 b1)
/-- neither -/
theorem fail_case (hs : St B N P n k i g h) (G : Good B N P n i c s e w g h) {f : dH} (cf : f_X1_fail g = some f) : Al (oV (f_X7_fail h) (fun g21 => some (0, g21))) (fun o => Out B N P n k 1 i g h f o) := by
  have h26 := hs.2.2.2
  refine al_oV' (fun m hm => al_some ?_)
  obtain ⟨b1, b2, b3, b4⟩ := G.fail cf hm
  have k17 : (m 0 26).toInt = k := by rw [b4]; exact h26
  exact Out.bad b2.pF b3 k17 b1
theorem Out.mono {D D' : Nat} {f : dH} {o : Int32 × dH} (q : Out B N P n k D i g h f o) (hD : D ≤ D') : Out B N P n k D' i g h f o := by
  obtain ⟨q1, q2, q3, q4⟩ := q
  refine ⟨q1, q2, q3, ?_⟩
  rcases q4 with q4 | ⟨i', a, b, c, d⟩
  · exact Or.inl q4
  · exact Or.inr ⟨i', a, b, c, d.mono hD⟩
/-- the atoms while more may be open -/
theorem one_gen {m : Nat} (hk : k < 5) {E A : dH → Option (Int32 × dH)} (hE : ∀ (v1 v2 : Int32) (g h : dH) (i : Nat) (f : dH) (o : Int32 × dH), v1.toInt = 0 → v2.toInt = k + 1 → St B N P n (k + 1) i g h → f_X1_read m v1 v2 g = some f → E h = some o → Out B N P n (k + 1) (6 + 5 * (5 - (k + 1))) i g h f o) (hA : ∀ (n' : Nat) (v : Int32) (g h : dH) (i : Nat) (f : dH) (o : Int32 × dH), v.toInt = k + 1 → St B N P n (k + 1) i g h → f_X1_readOne (f_X1_read m) n' v g = some f → A h = some o → Out B N P n (k + 1) (1 + 5 * (5 - (k + 1))) i g h f o) (n' : Nat) {v : Int32} (hv : v.toInt = k) (hs : St B N P n k i g h) : Al (f_X1_readOne (f_X1_read m) n' v g) (fun f => ∀ o, tAtom E A h = some o → Out B N P n k (1 + 5 * (5 - k)) i g h f o) := by
  cases n' with
  | zero => exact al_none
  | succ n' =>
    obtain ⟨c, s, e, w, G⟩ := hs.1
    intro f hf
    have cl := one_cls G f hf
    have b27 := G.2.2.2.2.2.2.1
    have m2 := G.2.2.2.2.2.2.2.2.2.2.2.2.2.1.2
    have lit : ∀ {t : Option (Int32 × dH)}, Al t (fun o => Out B N P n k 1 i g h f o) → Al t (fun o => Out B N P n k (1 + 5 * (5 - k)) i g h f o) := fun q o ho => (q o ho).mono (by omega)
    have cl1 : (c = 302 ∨ c = 303) → ∃ g4, f_X5_write (dtx (g 42 1)) (g 4 i) g = some g4 ∧ f_X1_next g4 = some f := fun z => by
      rcases cl with q | q | q | q
      · exact q.2
      · omega
      · omega
      · omega
    have clf : ¬ c = 302 → ¬ c = 303 → ¬ c = 45 → ¬ c = 40 → f_X1_fail g = some f := fun z1 z2 z3 z4 => by
      rcases cl with q | q | q | q
      · omega
      · exact absurd q.1 z3
      · exact absurd q.1 z4
      · exact q.2.2.2.2
    unfold tAtom
    refine al_oP (fun r1 hr1 => ?_)
    have s1 := G.sign (v := 45) (by unfold isSg; decide) r1 hr1
    rw [show (45 : Int32).toInt = 45 by decide] at s1
    refine al_ite (fun c1 => al_oP (fun r4 hr4 => ?_)) (fun c1 => ?_)
    · have s2 := G.sign (v := 40) (by unfold isSg; decide) r4 hr4
      rw [show (40 : Int32).toInt = 40 by decide] at s2
      refine al_ite (fun c4 => al_ite (fun _ => al_ite (fun c2 => lit (num_case hs G c2 cl1)) (fun c2 => al_ite (fun _ => al_ite (fun c3 => lit (word_case hs G c3 cl1 clf)) (fun c3 => lit (fail_case hs G (clf ?_ ?_ ?_ ?_)))) (fun z => absurd b27 z))) (fun z => absurd b27 z)) (fun c4 => ?_)
      · unfold isSg at m2; omega
      · unfold isSg at m2; omega
      · omega
      · omega
      · have hc : c = 40 := by omega
        subst hc
        rcases cl with q | q | q | q
        · omega
        · omega
        · exact one_paren hk hE hs G hv f q.2
        · omega
    · have hc : c = 45 := by omega
      subst hc
      rcases cl with q | q | q | q
      · omega
      · exact one_minus hk hA hs G hv f q.2
      · omega
      · omega
end PR

end
