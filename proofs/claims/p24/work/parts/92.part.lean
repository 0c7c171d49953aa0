/-! a part: both alike -/
noncomputable section
section PR
variable {B : Nat → Int} {N : Nat} {P : Nat → Nat} {n : Nat} {i : Nat} {c : Int} {s e : Nat} {w : Int} {g h : dH}
theorem bad_p4 {v : Int32} (hb : ¬ (h 0 27).toInt = 0) : Al (tP4 v h) (fun o => o = (v, h)) := by
  unfold tP4
  rw [if_neg hb]
  exact al_some rfl
theorem bad_p3 {v : Int32} (hb : ¬ (h 0 27).toInt = 0) : Al (tP3 v h) (fun o => o = (v, h)) := by
  unfold tP3
  refine al_oP (fun r hr => ?_)
  rw [if_pos (bad_sign hb r hr)]
  refine al_oV' (fun k hk => ?_)
  have ek := bad_fail hb k hk
  subst ek
  exact bad_p4 hb
theorem bad_p1 (hb : ¬ (h 0 27).toInt = 0) : Al (tP1 h) (fun o => o = (0, h)) := by
  unfold tP1
  rw [if_neg hb]
  unfold tP2
  rw [if_neg hb]
  exact bad_p3 hb
/-- what a part leaves, as pF, and one end -/
def pE (kk : Nat) (f g : dH) : Prop := ∀ a k, ¬ (a = 42 ∧ 2 ≤ k ∧ k ≤ 4) → ¬ (a = rT g ∧ k = 1) → ¬ a = rT g + 1 → ¬ (a = rT g + 2 ∧ k = kk) → f a k = g a k
theorem pF.pE {kk : Nat} {f g : dH} (q : pF f g) : pE kk f g := fun a k a1 a2 a3 _ => q a k a1 a2 a3
theorem pE.tx {kk : Nat} {f g : dH} (q : pE kk f g) : rT f = rT g := by
  have := rT_or g
  unfold rT
  rw [q 42 1 (by omega) (by omega) (by omega) (by omega)]
theorem pE.trans {kk : Nat} {f g h : dH} (q : pE kk f g) (r : pE kk g h) : pE kk f h := fun a k a1 a2 a3 a4 => (q a k a1 (by rw [r.tx]; exact a2) (by rw [r.tx]; exact a3) (by rw [r.tx]; exact a4)).trans (r a k a1 a2 a3 a4)
theorem pE.rows {kk : Nat} {f g : dH} (q : pE kk f g) : ∀ a k, a = 2 ∨ a = 3 ∨ a = 4 → f a k = g a k := fun a k h => by
  have := rT_or g
  exact q a k (by omega) (by omega) (by omega) (by omega)
/-- an end is written -/
theorem end_ok {kk : Nat} {pt : Int32} (hpt : pt.toInt = kk) : Al (f_X5_endPart (dtx (g 42 1)) pt g) (fun f => (∀ a k, ¬ (a = rT g + 2 ∧ k = kk) → f a k = g a k) ∧ f (rT g + 2) kk = g (rT g) 1) := by
  unfold f_X5_endPart
  have e : pt.toInt.toNat = kk := by omega
  refine al_ite (fun _ => al_oH' (fun f hf => al_some ?_)) (fun _ => al_none)
  rw [e] at hf
  refine ⟨fun a k q => ?_, ?_⟩
  · rw [hf]; exact dU_ne q
  · rw [hf]; exact dU_eq
theorem Good.wr2 {g1 : dH} (G : Good B N P n i c s e w g h) (p : ∀ a k, a = 2 ∨ a = 3 ∨ a = 4 → g1 a k = g a k) (q : ∀ k, g1 42 k = g 42 k) : Good B N P n i c s e w g1 h := by
  obtain ⟨t, o, hB, hN, hb, b4, b27, hi, g2, g3, tk, gs, gw, mt, hn⟩ := G
  exact ⟨t.same p, o, hB, hN, hb, by rw [q]; exact b4, b27, hi, by rw [q]; exact g2, by rw [q]; exact g3, tk, by rw [p 3 i (by omega)]; exact gs, fun z => by rw [p 4 i (by omega)]; exact gw z, mt, hn⟩
variable (B N P n) in
def Par (kk i : Nat) (g h f : dH) (o : Int32 × dH) : Prop := pE kk f g ∧ mSame o.2 h ∧ (o.2 0 26).toInt = 0 ∧ (Bad f o.2 ∨ ∃ i', St B N P n 0 i' f o.2 ∧ i < i' ∧ rZ f + i ≤ rZ g + i' ∧ Em (nmF h) 31 o.1 g f ∧ f (rT g + 2) kk = f (rT g) 1)
theorem expect_ok {v : Int32} (g3 : (g 42 3).toInt = c) : Al (f_X1_expect v g) (fun f => (c = v.toInt ∧ f_X1_next g = some f) ∨ (¬ c = v.toInt ∧ f_X1_fail g = some f)) := by
  unfold f_X1_expect
  exact al_ite (fun z => al_oV' (fun f hf => al_some (Or.inl ⟨by omega, hf⟩))) (fun z => al_oV' (fun f hf => al_some (Or.inr ⟨by omega, hf⟩)))
/-- the part's end behind a fault -/
theorem bad_end {kk : Nat} {pt : Int32} (hpt : pt.toInt = kk) {f0 f1 : dH} {m : dH} (b : Bad f0 m) (h4 : f_X5_endPart (dtx (f0 42 1)) pt f0 = some f1) : Bad f1 m ∧ pE kk f1 f0 := by
  obtain ⟨e1, e2⟩ := end_ok hpt f1 h4
  have := rT_or f0
  exact ⟨b.eq (fun k => e1 42 k (by omega)) (fun _ _ => rfl), fun a k _ _ _ q => e1 a k q⟩
theorem part_both {kk : Nat} (hkk : kk < 3) {ky pt r : Int32} (hky : ky.toInt = 304 + (kk : Int)) (hpt : pt.toInt = kk) (hs : St B N P n 0 i g h) (hr : ∀ c s e w, Good B N P n i c s e w g h → (r.toInt = 1 ∧ c = 304 + (kk : Int) ∧ (h 0 22).toInt = e) ∨ (r.toInt = 0 ∧ ¬ c = 304 + (kk : Int))) : Al (f_X1_readPart ky pt g) (fun f => ∀ o, f_X7_part r h = some o → Par B N P n kk i g h f o) := by
  obtain ⟨⟨c, s, e, w, G⟩, z1, z2, z26⟩ := id hs
  have y3 := G.2.2.2.2.2.2.2.2.2.1
  have b27 := G.2.2.2.2.2.2.1
  unfold f_X1_readPart
  refine al_oV' (fun g1 h1 => al_oV' (fun g2 h2 => al_oV' (fun g3 h3 => al_oV' (fun g4 h4 => al_some ?_))))
  intro o ho
  rw [part_t] at ho
  have hex := expect_ok y3 g1 h1
  rw [hky] at hex
  rcases hr c s e w G with ⟨r1, rc, he⟩ | ⟨r0, rc⟩
  · rcases hex with ⟨-, n1⟩ | ⟨q, -⟩
    · unfold tPart at ho
      rw [if_neg (by omega)] at ho
      unfold tP1 at ho
      rw [if_pos b27] at ho
      revert o
      refine al_oV' (fun k1 hk1 => ?_)
      obtain ⟨⟨c1, s1, e1, w1, G1⟩, rr1, mm1, k26⟩ := G.next (by omega) he n1 hk1
      have S1 : St B N P n 0 (i + 1) g1 k1 := ⟨⟨c1, s1, e1, w1, G1⟩, by rw [rr1.same.2.1]; omega, by rw [rr1.size]; exact z2, by rw [k26]; exact z26⟩
      unfold tP2
      rw [if_pos G1.2.2.2.2.2.2.1]
      refine al_oI (fun v k2 hk2 => ?_)
      obtain ⟨o1, o2, o3, o4⟩ := e_ok recF 0 0 g1 k1 (i + 1) g2 (v, k2) (by decide) (by decide) S1 h2 hk2
      simp only at o2 o3 o4
      have em0 : ∀ {D : Nat} {x : Int32} {q : dH}, Em (nmF k1) D x g1 q → Em (nmF h) D x g q := fun m => (m.nm mm1.nm).left rr1
      rcases o4 with bd | ⟨i', S2, j1, j2, em⟩
      · have st := cbad_expect bd.cb (by decide) g3 h3
        obtain ⟨b4, p4⟩ := bad_end hpt (bd.stay st) h4
        intro o ho
        have eo := bad_p3 bd.2.1 o ho
        subst eo
        exact ⟨p4.trans (st.1.pF.pE.trans (o1.pE.trans rr1.pF.pE)), o2.trans mm1, o3, Or.inl b4⟩
      · obtain ⟨⟨c2, s2, e2, w2, G2⟩, y1, y2, y26⟩ := id S2
        have hex2 := expect_ok G2.2.2.2.2.2.2.2.2.2.1 g3 h3
        rw [show (59 : Int32).toInt = 59 by decide] at hex2
        unfold tP3
        refine al_oP (fun r2 hr2 => ?_)
        have sg := G2.sign (v := 59) (by unfold isSg; decide) r2 hr2
        rw [show (59 : Int32).toInt = 59 by decide] at sg
        rcases sg with ⟨a1, a2, a3⟩ | ⟨a1, a2⟩
        · rcases hex2 with ⟨-, n2⟩ | ⟨q, -⟩
          · rw [if_neg (by omega)]
            unfold tP4
            rw [if_pos G2.2.2.2.2.2.2.1]
            refine al_oV' (fun k3 hk3 => al_some ?_)
            obtain ⟨⟨c3, s3, e3, w3, G3⟩, rr3, mm3, k26'⟩ := G2.next (by omega) a3 n2 hk3
            obtain ⟨u1, u2⟩ := end_ok hpt g4 h4
            have t3 := rT_or g3
            have p4 : pE kk g4 g3 := fun a k _ _ _ q => u1 a k q
            have et : rT g4 = rT g3 := p4.tx
            have ez : rZ g4 = rZ g3 := by unfold rZ; rw [et, u1 _ _ (by omega)]
            have es : rS g4 = rS g3 := by unfold rS; rw [et]; funext k; exact u1 _ _ (by omega)
            have eT : rT g3 = rT g := (rr3.pF.tx).trans (o1.tx.trans rr1.pF.tx)
            have em3 : Em (nmF h) 31 v g g3 := (em0 em).right rr3
            have em4 : Em (nmF h) 31 v g g4 := by
              unfold Em at em3 ⊢
              rw [ez, es]
              exact em3
            have k26f : (k3 0 26).toInt = 0 := by rw [k26']; exact o3
            have e23 := rr3.same.2.1
            have e01 := rr1.same.2.1
            refine ⟨p4.trans (rr3.pF.pE.trans (o1.pE.trans rr1.pF.pE)), mm3.trans (o2.trans mm1), k26f, Or.inr ⟨i' + 1, ⟨⟨c3, s3, e3, w3, G3.wr2 p4.rows (fun k => u1 42 k (by omega))⟩, by omega, ?_, k26f⟩, by omega, by omega, em4, ?_⟩⟩
            · rw [et, u1 _ _ (by omega), rr3.size]; exact y2
            · rw [← eT, u2, u1 _ _ (by omega)]
          · exact absurd a2 q
        · rcases hex2 with ⟨q, -⟩ | ⟨-, n2⟩
          · exact absurd q a2
          · rw [if_pos a1]
            refine al_oV' (fun k3 hk3 => ?_)
            obtain ⟨b1, b2, b3, b5⟩ := G2.fail n2 hk3
            obtain ⟨b4, p4⟩ := bad_end hpt b1 h4
            intro o ho
            have eo := bad_p4 b1.2.1 o ho
            subst eo
            exact ⟨p4.trans (b2.pF.pE.trans (o1.pE.trans rr1.pF.pE)), b3.trans (o2.trans mm1), (congrArg Int32.toInt b5).trans o3, Or.inl b4⟩
    · exact absurd rc q
  · rcases hex with ⟨q, -⟩ | ⟨-, n1⟩
    · exact absurd q rc
    · unfold tPart at ho
      rw [if_pos r0] at ho
      revert o
      refine al_oV' (fun k1 hk1 => ?_)
      obtain ⟨b1, b2, b3, b5⟩ := G.fail n1 hk1
      have st1 := cbad_read recF 0 0 g1 (by decide) (by decide) b1.cb g2 h2
      have bd2 := b1.stay st1
      have st2 := cbad_expect bd2.cb (by decide) g3 h3
      obtain ⟨b4, p4⟩ := bad_end hpt (bd2.stay st2) h4
      intro o ho
      have eo := bad_p1 b1.2.1 o ho
      subst eo
      exact ⟨p4.trans (st2.1.pF.pE.trans (st1.1.pF.pE.trans b2.pF.pE)), b3, (congrArg Int32.toInt b5).trans z26, Or.inl b4⟩
end PR
end
