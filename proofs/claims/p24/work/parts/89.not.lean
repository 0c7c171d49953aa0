/-! the third level: not, a single compare -/
noncomputable section
theorem inc1a {v : Int32} (h : v.toInt < 1000) : (v + 1).toInt = v.toInt + 1 := by
  have := lt32 v
  exact i_add rfl ti1 (by omega) (by omega)
def tCmp (A : dH → Option (Int32 × dH)) (acc : Int32) (h : dH) : Option (Int32 × dH) := oP (f_X7_isSign 60 h) (fun r6 => if r6.toInt = 0 then (oP (f_X7_isSign 61 h) (fun r9 => if r9.toInt = 0 then (some (acc, h)) else (if (dlcmp (h 0 25).toInt64 60).toInt = 0 then (oV (f_X7_next h) (fun g14 => oI (A g14) (fun r15 g16 => if acc.toInt < r15.toInt then (some (1, g16)) else (some (0, g16))))) else (oV (f_X7_next h) (fun g19 => oI (A g19) (fun r20 g21 => if acc.toInt = r20.toInt then (some (1, g21)) else (some (0, g21)))))))) else (if (dlcmp (h 0 25).toInt64 60).toInt = 0 then (oV (f_X7_next h) (fun g26 => oI (A g26) (fun r27 g28 => if acc.toInt < r27.toInt then (some (1, g28)) else (some (0, g28))))) else (oV (f_X7_next h) (fun g31 => oI (A g31) (fun r32 g33 => if acc.toInt = r32.toInt then (some (1, g33)) else (some (0, g33)))))))
def tNot (A S : dH → Option (Int32 × dH)) (h : dH) : Option (Int32 × dH) := oP (f_X7_isWord 110 111 116 0 0 0 0 0 h) (fun r1 => if r1.toInt = 0 then (oI (A h) (fun r4 g5 => tCmp A r4 g5)) else (oI (f_X7_opens h) (fun r36 g37 => if r36.toInt = 0 then (some (0, g37)) else (oI (S g37) (fun r40 g41 => oH (dU g41 0 26 ((g41 0 26) - 1)) (fun g42 => if r40.toInt = 0 then (some (1, g42)) else (some (0, g42))))))))
def tNot5 (A : dH → Option (Int32 × dH)) (h : dH) : Option (Int32 × dH) := oP (f_X7_isWord 110 111 116 0 0 0 0 0 h) (fun r1 => if r1.toInt = 0 then (oI (A h) (fun r4 g5 => tCmp A r4 g5)) else (oI (f_X7_opens h) (fun _ g37 => some (0, g37))))
theorem not0_t (h : dH) : f_X7_not0 h = tNot f_X7_added0 f_X7_not1 h := rfl
theorem not1_t (h : dH) : f_X7_not1 h = tNot f_X7_added1 f_X7_not2 h := rfl
theorem not2_t (h : dH) : f_X7_not2 h = tNot f_X7_added2 f_X7_not3 h := rfl
theorem not3_t (h : dH) : f_X7_not3 h = tNot f_X7_added3 f_X7_not4 h := rfl
theorem not4_t (h : dH) : f_X7_not4 h = tNot f_X7_added4 f_X7_not5 h := rfl
theorem not5_t (h : dH) : f_X7_not5 h = tNot5 f_X7_added5 h := rfl
theorem jnd_less (a b : Int32) : jnd (-9) a b = if a.toInt < b.toInt then 1 else 0 := by
  unfold jnd
  rw [if_neg (by decide), if_neg (by decide), if_pos (by decide)]
theorem jnd_same (a b : Int32) : jnd (-10) a b = if a.toInt = b.toInt then 1 else 0 := by
  unfold jnd
  rw [if_neg (by decide), if_neg (by decide), if_neg (by decide), if_pos (by decide)]
def cmX (c : Int) : Int32 := if c = 60 then -9 else -10
section PR
variable {B : Nat → Int} {N : Nat} {P : Nat → Nat} {n : Nat} {i k : Nat} {c : Int} {s e : Nat} {w : Int} {g h : dH}
theorem Good.worth60 (G : Good B N P n i c s e w g h) (hc : isSg c) : (dlcmp (h 0 25).toInt64 60).toInt = 0 ↔ c = 60 := by
  obtain ⟨t, o, hB, hN, hb, b4, b27, hi, g2, g3, tk, gs, gw, mt, hn⟩ := G
  have hd := dlcmp_ok (h 0 25).toInt64 60
  rw [l_i2l, show (60 : Int64).toInt = 60 by decide] at hd
  have m2 := mt.2
  unfold isSg at hc m2
  omega
/-- the reference's compare -/
theorem cmp_bad {A : dH → Option (Int32 × dH)} {acc : Int32} (hb : ¬ (h 0 27).toInt = 0) : Al (tCmp A acc h) (fun o => o = (acc, h)) := by
  unfold tCmp
  refine al_oP (fun r hr => ?_)
  rw [if_pos (bad_sign hb r hr)]
  refine al_oP (fun r hr => ?_)
  rw [if_pos (bad_sign hb r hr)]
  exact al_some rfl
theorem cmp_two {A : dH → Option (Int32 × dH)} {acc : Int32} (G : Good B N P n i c s e w g h) (hc : c = 60 ∨ c = 61) (he : (h 0 22).toInt = e) : Al (if (dlcmp (h 0 25).toInt64 60).toInt = 0 then (oV (f_X7_next h) (fun g14 => oI (A g14) (fun r15 g16 => if acc.toInt < r15.toInt then (some ((1 : Int32), g16)) else (some (0, g16))))) else (oV (f_X7_next h) (fun g19 => oI (A g19) (fun r20 g21 => if acc.toInt = r20.toInt then (some ((1 : Int32), g21)) else (some (0, g21)))))) (fun o => ((c = 60 ∨ c = 61) ∧ (h 0 22).toInt = e ∧ ∃ h1 r h2, f_X7_next h = some h1 ∧ A h1 = some (r, h2) ∧ o = (jnd (cmX c) acc r, h2)) ∨ (¬ (c = 60 ∨ c = 61) ∧ o = (acc, h))) := by
  have wo := G.worth60 (by unfold isSg; omega)
  refine al_ite (fun d => al_oV' (fun h1 q1 => al_oI (fun r h2 q2 => ?_))) (fun d => al_oV' (fun h1 q1 => al_oI (fun r h2 q2 => ?_)))
  · have c60 : c = 60 := wo.mp d
    have ej : jnd (cmX c) acc r = if acc.toInt < r.toInt then 1 else 0 := by
      unfold cmX
      rw [if_pos c60, jnd_less]
    exact al_ite (fun z => al_some (Or.inl ⟨hc, he, h1, r, h2, q1, q2, by rw [ej, if_pos z]⟩)) (fun z => al_some (Or.inl ⟨hc, he, h1, r, h2, q1, q2, by rw [ej, if_neg z]⟩))
  · have c60 : ¬ c = 60 := fun z => d (wo.mpr z)
    have ej : jnd (cmX c) acc r = if acc.toInt = r.toInt then 1 else 0 := by
      unfold cmX
      rw [if_neg c60, jnd_same]
    exact al_ite (fun z => al_some (Or.inl ⟨hc, he, h1, r, h2, q1, q2, by rw [ej, if_pos z]⟩)) (fun z => al_some (Or.inl ⟨hc, he, h1, r, h2, q1, q2, by rw [ej, if_neg z]⟩))
theorem cmp_ok {A : dH → Option (Int32 × dH)} {acc : Int32} (G : Good B N P n i c s e w g h) : Al (tCmp A acc h) (fun o => ((c = 60 ∨ c = 61) ∧ (h 0 22).toInt = e ∧ ∃ h1 r h2, f_X7_next h = some h1 ∧ A h1 = some (r, h2) ∧ o = (jnd (cmX c) acc r, h2)) ∨ (¬ (c = 60 ∨ c = 61) ∧ o = (acc, h))) := by
  unfold tCmp
  refine al_oP (fun r hr => ?_)
  have sg := G.sign (v := 60) (by unfold isSg; decide) r hr
  rw [show (60 : Int32).toInt = 60 by decide] at sg
  refine al_ite (fun z => al_oP (fun r9 hr9 => ?_)) (fun z => cmp_two G (by omega) (by omega))
  have sg2 := G.sign (v := 61) (by unfold isSg; decide) r9 hr9
  rw [show (61 : Int32).toInt = 61 by decide] at sg2
  exact al_ite (fun z9 => al_some (Or.inr ⟨by omega, rfl⟩)) (fun z9 => cmp_two G (by omega) (by omega))
/-- the class's compare -/
theorem loop_one (g : dH) {rec : Int32 → Int32 → dH → Option dH} {v1 v2 : Int32} (hv1 : v1.toInt = 2) : Al (l_X1_read_76 rec v1 v2 1 (fun f => some f) fuel0 0 g) (fun f => (((g 42 3).toInt = 60 ∨ (g 42 3).toInt = 61) ∧ ∃ g23 g24, f_X1_next g = some g23 ∧ rec (v1 + 1) v2 g23 = some g24 ∧ f_X5_write (dtx (g24 42 1)) (cmX (g 42 3).toInt) g24 = some f) ∨ (¬ ((g 42 3).toInt = 60 ∨ (g 42 3).toInt = 61) ∧ f = g)) := by
  rw [show fuel0 = 998 + 1 + 1 from rfl, l_X1_read_76]
  refine al_ite (fun c1 => al_oP (fun r hr => al_ite (fun c2 => al_oP (fun r2 hr2 => al_oV' (fun g23 h23 => al_oV' (fun g24 h24 => al_oV' (fun g25 h25 => ?_))))) (fun c2 => ?_))) (fun c1 => absurd (by decide) c1)
  · have lv := level_ok r hr
    have op := oper_ok r2 hr2
    have hc : (g 42 3).toInt = 60 ∨ (g 42 3).toInt = 61 := by omega
    have er : r2 = cmX (g 42 3).toInt := by
      unfold cmX
      rcases op with ⟨a, b⟩ | ⟨a, b⟩ | ⟨a, b⟩ | ⟨a, b⟩ | ⟨a, b⟩ | ⟨a, b⟩ | ⟨a1, a2, a3, a4, a5, a6, b⟩
      · omega
      · omega
      · rw [if_pos a]; exact b
      · rw [if_neg (by omega)]; exact b
      · omega
      · omega
      · omega
    rw [l_X1_read_76, if_neg (by decide)]
    exact al_some (Or.inl ⟨hc, g23, g24, h23, h24, by rw [← er]; exact h25⟩)
  · have lv := level_ok r hr
    exact al_some (Or.inr ⟨by omega, rfl⟩)
theorem trn_not (a : Int32) : trn (-14) a = if a.toInt = 0 then 1 else 0 := by
  unfold trn
  rw [if_neg (by decide)]
/-- behind the sum: a compare, on both sides -/
theorem cmp_both {m D : Nat} {A : dH → Option (Int32 × dH)} (hA : Rd B N P n k m 3 D A) {u v : Int32} (hu : u.toInt = 2) (hv : v.toInt = k) {g0 h0 g h : dH} {i0 : Nat} {r1 : Int32} (hO : Out B N P n k D i0 g0 h0 g (r1, h)) (f : dH) (o : Int32 × dH) (hf : l_X1_read_76 (f_X1_read m) u v 1 (fun f => some f) fuel0 0 g = some f) (ho : tCmp A r1 h = some o) : Out B N P n k (D + 1) i0 g0 h0 f o := by
  obtain ⟨o1, o2, o3, o4⟩ := hO
  simp only at o2 o3 o4
  rcases o4 with bd | ⟨i', S1, j1, j2, em⟩
  · have st := cbad_loop (rec := f_X1_read m) (v2 := v) (v3 := 1) (show 0 ≤ u.toInt by omega) fuel0 0 g bd.cb f hf
    have eo := cmp_bad bd.2.1 o ho
    subst eo
    exact Out.bad (st.1.pF.trans o1) o2 o3 (bd.stay st)
  · obtain ⟨⟨c, s, e, w, G⟩, z1, z2, z3⟩ := id S1
    have g3 := G.2.2.2.2.2.2.2.2.2.1
    have lo := loop_one g hu f hf
    rw [g3] at lo
    rcases cmp_ok G o ho with ⟨hc, he, h1, r, h2, q1, q2, q3⟩ | ⟨hc, q⟩
    · rcases lo with ⟨-, g23, g24, p1, p2, p3⟩ | ⟨hn, -⟩
      · subst q3
        have hin := G.2.2.2.2.2.2.2.1
        have tn := G.1.2.1
        obtain ⟨⟨c', s', e', w', G1⟩, r1', mm1, k26⟩ := G.next (by omega) he p1 q1
        have tv : (u + 1).toInt = 3 := (inc1a (by omega)).trans (by omega)
        have S2 : St B N P n k (i' + 1) g23 h1 := ⟨⟨c', s', e', w', G1⟩, by rw [r1'.same.2.1]; omega, by rw [r1'.size]; exact z2, by rw [k26]; exact z3⟩
        obtain ⟨y1, y2, y3, y4⟩ := hA (u + 1) v g23 h1 (i' + 1) g24 (r, h2) tv hv S2 p2 q2
        simp only at y2 y3 y4
        rcases y4 with bd | ⟨i2, S3, l1, l2, em2⟩
        · obtain ⟨p, q⟩ := write_any f p3
          exact Out.bad (p.trans (y1.trans (r1'.pF.trans o1))) (y2.trans (mm1.trans o2)) y3 (bd.eq q (fun _ _ => rfl))
        · obtain ⟨⟨c2, s2, e2, w2, G2⟩, x1, x2, x3⟩ := S3
          have in2 := G2.2.2.2.2.2.2.2.1
          have e23 := r1'.same.2.1
          obtain ⟨wr, p, q, y0⟩ := Wr.of x2 (by omega) p3
          have em3 : Em (nmF h0) D r g g24 := (em2.nm ((mm1.trans o2).nm)).left r1'
          have hx : -14 < (cmX c).toInt ∧ (cmX c).toInt < -6 := by
            unfold cmX
            by_cases z : c = 60
            · rw [if_pos z]; decide
            · rw [if_neg z]; decide
          have em4 := (em.mono (show D ≤ D + 1 by omega)).bin em3 wr hx (by omega)
          exact ⟨p.trans (y1.trans (r1'.pF.trans o1)), y2.trans (mm1.trans o2), y3, Or.inr ⟨i2, ⟨⟨c2, s2, e2, w2, G2.wr p q⟩, by rw [wr.1]; omega, y0, y3⟩, by omega, by rw [wr.1]; omega, em4⟩⟩
      · exact absurd hc hn
    · rcases lo with ⟨hn, -⟩ | ⟨-, ef⟩
      · exact absurd hn hc
      · subst ef q
        exact ⟨o1, o2, o3, Or.inr ⟨i', S1, j1, j2, em.mono (by omega)⟩⟩
/-- not, while more may be open -/
theorem Rd.not {m D D' : Nat} (hk : k < 5) (hD : D' ≤ D + 1) {A S F : dH → Option (Int32 × dH)} (hA : Rd B N P n k m 3 D A) (hN : Rd B N P n (k + 1) m 2 D' S) (hF : ∀ h, F h = tNot A S h) : Rd B N P n k (m + 1) 2 (D + 1) F := by
  intro u v g h i f o hu hv hs hf ho
  have hf' : f_X1_readB (f_X1_read m) u v g = some f := hf
  clear hf
  rw [hF] at ho
  have hu2 : u.toInt = 2 := by omega
  obtain ⟨c, s, e, w, G⟩ := hs.1
  have g3 := G.2.2.2.2.2.2.2.2.2.1
  have tv : (u + 1).toInt = 3 := (inc1a (by omega)).trans (by omega)
  unfold f_X1_readB at hf'
  rw [if_neg (by omega), if_pos hu2] at hf'
  unfold tNot at ho
  revert o
  refine al_oP (fun r1 hr1 => ?_)
  have q := G.key (k := 5) (by omega) (by decide) r1 hr1
  by_cases c9 : (g 42 3).toInt = 309
  · rw [if_pos c9] at hf'
    rw [if_neg (by omega)]
    have he := G.here (Or.inr (Or.inl (by omega)))
    revert f
    refine al_oI (fun a g9 ha => ?_)
    intro f hf
    refine al_oI (fun b g37 hb => ?_)
    obtain ⟨r, mm, q⟩ := opens_ok hs G (by omega) he (by omega) hv ha hb
    simp only at r mm q
    rcases q with ⟨k1, a1, b1, S1⟩ | ⟨k1, -⟩
    · rw [if_neg (by omega)] at hf
      rw [if_neg (by omega)]
      have tv1 : (v + 1).toInt = (k : Int) + 1 := i_add hv (by decide) (by omega) (by omega)
      refine al_oI (fun r40 g41 h41 => al_oH' (fun g42 h42 => ?_))
      revert f
      refine al_oV' (fun g12 h12 => al_oV' (fun g13 h13 => al_some ?_))
      obtain ⟨o1, o2, o3, o4⟩ := hN 2 (v + 1) g9 g37 (i + 1) g12 (r40, g41) (by decide) (by rw [tv1]; omega) S1 h12 h41
      simp only at o2 o3 o4
      have m42 : mSame g42 h := by rw [h42]; exact (mSame.up (by omega)).trans (o2.trans mm)
      have k42 : (g42 0 26).toInt = k := by
        rw [h42, dU_eq]
        have := i_sub (a := g41 0 26) (b := 1) o3 (by decide) (B := 1) (by omega) (by omega)
        rw [this]; omega
      have u42 : ∀ j, ¬ j = 26 → g42 0 j = g41 0 j := fun j hj => by rw [h42]; exact dU_ne (by omega)
      have fin : Al (if r40.toInt = 0 then some ((1 : Int32), g42) else some (0, g42)) (fun o => o = (trn (-14) r40, g42)) := al_ite (fun z => al_some (by rw [trn_not, if_pos z])) (fun z => al_some (by rw [trn_not, if_neg z]))
      intro o ho
      have eo := fin o ho
      subst eo
      rcases o4 with bd | ⟨i', S2, hi, hz, em⟩
      · obtain ⟨p, q⟩ := write_any g13 h13
        exact Out.bad (p.trans (o1.trans r.pF)) m42 k42 (bd.eq q u42)
      · obtain ⟨⟨c', s', e', w', G2⟩, z2, z20, z26⟩ := S2
        have tn := G2.1.2.1
        have hin := G2.2.2.2.2.2.2.2.1
        have hz0 := hs.2.1
        have e14 := r.same.2.1
        obtain ⟨wr, p, q, y0⟩ := Wr.of z20 (by omega) h13
        have em1 : Em (nmF h) D' r40 g g12 := (em.nm mm.nm).left r
        have em2 := (em1.un wr (by decide)).mono hD
        have G3 := (G2.wr p q).up26 ((g41 0 26) - 1)
        rw [← h42] at G3
        refine ⟨p.trans (o1.trans r.pF), m42, k42, Or.inr ⟨i', ⟨⟨c', s', e', w', G3⟩, ?_, y0, k42⟩, by omega, ?_, em2⟩⟩
        · rw [wr.1]; omega
        · rw [wr.1]; omega
    · omega
  · rw [if_neg c9] at hf'
    rw [if_pos (by omega)]
    revert f
    refine al_oV' (fun g14 h14 => ?_)
    rw [if_pos hu2]
    intro f hf
    refine al_oI (fun r4 g5 h5 => ?_)
    intro o ho
    exact cmp_both hA hu2 hv (hA (u + 1) v g h i g14 (r4, g5) tv hv hs h14 h5) f o hf ho
/-- not, where no more may be open -/
theorem Rd.not5 {m D : Nat} {A F : dH → Option (Int32 × dH)} (hA : Rd B N P n 5 m 3 D A) (hF : ∀ h, F h = tNot5 A h) : Rd B N P n 5 (m + 1) 2 (D + 1) F := by
  intro u v g h i f o hu hv hs hf ho
  have hf' : f_X1_readB (f_X1_read m) u v g = some f := hf
  clear hf
  rw [hF] at ho
  have hu2 : u.toInt = 2 := by omega
  obtain ⟨c, s, e, w, G⟩ := hs.1
  have g3 := G.2.2.2.2.2.2.2.2.2.1
  have tv : (u + 1).toInt = 3 := (inc1a (by omega)).trans (by omega)
  unfold f_X1_readB at hf'
  rw [if_neg (by omega), if_pos hu2] at hf'
  unfold tNot5 at ho
  revert o
  refine al_oP (fun r1 hr1 => ?_)
  have q := G.key (k := 5) (by omega) (by decide) r1 hr1
  by_cases c9 : (g 42 3).toInt = 309
  · rw [if_pos c9] at hf'
    rw [if_neg (by omega)]
    have he := G.here (Or.inr (Or.inl (by omega)))
    revert f
    refine al_oI (fun a g9 ha => ?_)
    intro f hf
    refine al_oI (fun b g37 hb => ?_)
    obtain ⟨r, mm, q⟩ := opens_ok hs G (by omega) he (by omega) hv ha hb
    simp only at r mm q
    rcases q with ⟨k1, -⟩ | ⟨-, a1, b1, bd, k26⟩
    · omega
    · rw [if_pos a1] at hf
      cases hf
      exact al_some (Out.bad r.pF mm k26 bd)
  · rw [if_neg c9] at hf'
    rw [if_pos (by omega)]
    revert f
    refine al_oV' (fun g14 h14 => ?_)
    rw [if_pos hu2]
    intro f hf
    refine al_oI (fun r4 g5 h5 => ?_)
    intro o ho
    exact cmp_both hA hu2 hv (hA (u + 1) v g h i g14 (r4, g5) tv hv hs h14 h5) f o hf ho
end PR
end
