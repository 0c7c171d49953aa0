/-! a whole text: both alike -/
noncomputable section
def tA (f : dH) (ta pt : Nat) : Nat := if pt = 0 then 0 else (f (ta + 2) (pt - 1)).toInt.toNat
def tB (f : dH) (ta pt : Nat) : Nat := (f (ta + 2) pt).toInt.toNat
/-- what a part of a text tells, by its steps -/
def tEv (f : dH) (ta : Nat) (nm : Nat → Int32) (pt : Nat) : Option (List Int32) := exR nm (f (ta + 1)) (tB f ta pt - tA f ta pt) (tA f ta pt) []
def tOk (f : dH) (ta : Nat) : Prop := ∀ pt, pt < 3 → tA f ta pt ≤ tB f ta pt ∧ 0 ≤ (f (ta + 2) pt).toInt ∧ (f (ta + 2) pt).toInt ≤ 160
theorem al_mono {α : Type} {t : Option α} {P Q : α → Prop} (h : Al t P) (hq : ∀ o, P o → Q o) : Al t Q := fun o ho => hq o (h o ho)
section PR
variable {B : Nat → Int} {N : Nat} {P : Nat → Nat} {n : Nat} {i : Nat} {c : Int} {s e : Nat} {w : Int} {g h : dH}
theorem r3_ok {v p q r : Int32} : Al (tR3 v p q r g) (fun o => o.2 = g ∧ (v.toInt = 0 → o.1 = p) ∧ (v.toInt = 1 → o.1 = q) ∧ (v.toInt = 2 → o.1 = r)) := by
  unfold tR3
  exact al_ite (fun a => al_some ⟨rfl, fun _ => rfl, fun z => by omega, fun z => by omega⟩) (fun a => al_ite (fun b => al_some ⟨rfl, fun z => absurd z a, fun _ => rfl, fun z => by omega⟩) (fun b => al_some ⟨rfl, fun z => absurd z a, fun z => absurd z b, fun _ => rfl⟩))
theorem bad_r2 {v p q r : Int32} (hb : ¬ (g 0 27).toInt = 0) : Al (tR2 v p q r g) (fun o => o.2 = g) := by
  unfold tR2
  rw [if_neg hb]
  exact al_mono r3_ok fun o h => h.1
theorem bad_r1 {v p q : Int32} (hb : ¬ (g 0 27).toInt = 0) : Al (tR1 v p q g) (fun o => o.2 = g) := by
  unfold tR1
  rw [if_neg hb]
  exact bad_r2 hb
theorem bad_r0 {v p : Int32} (hb : ¬ (g 0 27).toInt = 0) : Al (tR0 v p g) (fun o => o.2 = g) := by
  unfold tR0
  rw [if_neg hb]
  exact bad_r1 hb
/-- a part behind a fault -/
theorem bad_part {kk : Nat} {ky pt : Int32} (hky : ¬ ky.toInt = 301) (hpt : pt.toInt = kk) (b : Bad g h) : Al (f_X1_readPart ky pt g) (fun f => Bad f h ∧ pE kk f g) := by
  unfold f_X1_readPart
  refine al_oV' (fun g1 h1 => al_oV' (fun g2 h2 => al_oV' (fun g3 h3 => al_oV' (fun g4 h4 => al_some ?_))))
  have st0 := cbad_expect b.cb hky g1 h1
  have b1 := b.stay st0
  have st1 := cbad_read recF 0 0 g1 (by decide) (by decide) b1.cb g2 h2
  have bd2 := b1.stay st1
  have st2 := cbad_expect bd2.cb (by decide) g3 h3
  obtain ⟨b4, p4⟩ := bad_end hpt (bd2.stay st2) h4
  exact ⟨b4, p4.trans (st2.1.pF.pE.trans (st1.1.pF.pE.trans st0.1.pF.pE))⟩
def cEnd (g : dH) : Option (Int32 × dH) := if (g 42 3).toInt = 300 then (some ((g 42 4), g)) else (oV (f_X1_fail g) (fun g12 => some ((g12 42 4), g12)))
theorem bad_cend (b : Bad g h) : Al (cEnd g) (fun o => rdS o.2 g ∧ ¬ o.1.toInt = -1 ∧ (h 0 28).toInt = o.1.toInt) := by
  unfold cEnd
  have b3 := b.2.2.2
  rw [if_neg (by omega)]
  refine al_oV' (fun g1 h1 => al_some ?_)
  have st := cbad_fail b.cb g1 h1
  obtain ⟨x1, x2, x3, x4⟩ := b.stay st
  exact ⟨st.1, x1, x3⟩
/-- all but what a text's reading writes -/
def pR (ta : Nat) (f g : dH) : Prop := ∀ a k, ¬ (a = 42 ∧ 1 ≤ k ∧ k ≤ 4) → ¬ (a = 1 ∧ k = 5) → ¬ (2 ≤ a ∧ a ≤ 4) → ¬ (a = ta ∧ k = 1) → ¬ a = ta + 1 → ¬ a = ta + 2 → f a k = g a k
theorem pR.trans {ta : Nat} {f g h : dH} (q : pR ta f g) (r : pR ta g h) : pR ta f h := fun a k a1 a2 a3 a4 a5 a6 => (q a k a1 a2 a3 a4 a5 a6).trans (r a k a1 a2 a3 a4 a5 a6)
theorem pE.pR {kk ta : Nat} {f g : dH} (q : pE kk f g) (e : rT g = ta) : pR ta f g := fun a k a1 a2 a3 a4 a5 a6 => q a k (by omega) (by rw [e]; exact a4) (by rw [e]; exact a5) (by rw [e]; omega)
theorem rdS.pR {ta : Nat} {f g : dH} (q : rdS f g) : pR ta f g := fun a k a1 a2 a3 a4 a5 a6 => q a k (by omega)
variable (B N P n) in
/-- the three parts and the end, on both sides -/
theorem parts_both {ta : Nat} (hta : rT g = ta) (hz : rZ g = 0) {v2 : Int32} (hs : St B N P n 0 0 g h) : Al (oV (f_X1_readPart 304 0 g) (fun g7 => oV (f_X1_readPart 305 1 g7) (fun g8 => oV (f_X1_readPart 306 2 g8) (fun g9 => cEnd g9)))) (fun f => ∀ o, oP (f_X7_isWord 109 101 101 116 115 0 0 0 h) (fun w => oI (f_X7_part w h) (fun p k => tR0 v2 p k)) = some o → pR ta f.2 g ∧ mSame o.2 h ∧ ((f.1.toInt = -1 ∧ (o.2 0 27).toInt = 0 ∧ tOk f.2 ta ∧ ∀ pt : Nat, pt < 3 → v2.toInt = pt → tEv f.2 ta (nmF h) pt = some [o.1]) ∨ (¬ f.1.toInt = -1 ∧ ¬ (o.2 0 27).toInt = 0 ∧ (o.2 0 28).toInt = f.1.toInt))) := by
  refine al_oV' (fun g7 h7 => al_oV' (fun g8 h8 => al_oV' (fun g9 h9 => ?_)))
  intro f hf
  refine al_oP (fun w1 hw1 => al_oI (fun p k1 hk1 => ?_))
  have P1 := part_both (kk := 0) (by omega) (by decide) (by decide) hs (fun c s e w G => G.key (k := 0) (by omega) (by decide) w1 hw1) g7 h7 (p, k1) hk1
  obtain ⟨a1, a2, a3, a4⟩ := P1
  simp only at a2 a3 a4
  have t7 : rT g7 = ta := a1.tx.trans hta
  rcases a4 with bd | ⟨i1, S1, l1, z1, em1, en1⟩
  · obtain ⟨bd8, p8⟩ := bad_part (by decide) (kk := 1) (by decide) bd g8 h8
    obtain ⟨bd9, p9⟩ := bad_part (by decide) (kk := 2) (by decide) bd8 g9 h9
    obtain ⟨x1, x2, x3⟩ := bad_cend bd9 f hf
    intro o ho
    have eo := bad_r0 bd.2.1 o ho
    rw [eo]
    exact ⟨x1.pR.trans ((p9.pR (p8.tx.trans t7)).trans ((p8.pR t7).trans (a1.pR hta))), a2, Or.inr ⟨x2, bd.2.1, x3⟩⟩
  · have b1 : (k1 0 27).toInt = 0 := by
      obtain ⟨c, s, e, w, G⟩ := S1.1
      exact G.2.2.2.2.2.2.1
    unfold tR0
    rw [if_pos b1]
    refine al_oP (fun w2 hw2 => al_oI (fun q k2 hk2 => ?_))
    obtain ⟨c1, c2, c3, c4⟩ := part_both (kk := 1) (by omega) (by decide) (by decide) S1 (fun c s e w G => G.key (k := 1) (by omega) (by decide) w2 hw2) g8 h8 (q, k2) hk2
    simp only at c2 c3 c4
    have t8 : rT g8 = ta := c1.tx.trans t7
    rcases c4 with bd | ⟨i2, S2, l2, z2, em2, en2⟩
    · obtain ⟨bd9, p9⟩ := bad_part (by decide) (kk := 2) (by decide) bd g9 h9
      obtain ⟨x1, x2, x3⟩ := bad_cend bd9 f hf
      intro o ho
      have eo := bad_r1 bd.2.1 o ho
      rw [eo]
      exact ⟨x1.pR.trans ((p9.pR t8).trans ((c1.pR t7).trans (a1.pR hta))), c2.trans a2, Or.inr ⟨x2, bd.2.1, x3⟩⟩
    · have b2 : (k2 0 27).toInt = 0 := by
        obtain ⟨c, s, e, w, G⟩ := S2.1
        exact G.2.2.2.2.2.2.1
      unfold tR1
      rw [if_pos b2]
      refine al_oP (fun w3 hw3 => al_oI (fun r k3 hk3 => ?_))
      obtain ⟨d1, d2, d3, d4⟩ := part_both (kk := 2) (by omega) (by decide) (by decide) S2 (fun c s e w G => G.key (k := 2) (by omega) (by decide) w3 hw3) g9 h9 (r, k3) hk3
      simp only at d2 d3 d4
      have t9 : rT g9 = ta := d1.tx.trans t8
      rcases d4 with bd | ⟨i3, S3, l3, z3, em3, en3⟩
      · obtain ⟨x1, x2, x3⟩ := bad_cend bd f hf
        intro o ho
        have eo := bad_r2 bd.2.1 o ho
        rw [eo]
        exact ⟨x1.pR.trans ((d1.pR t8).trans ((c1.pR t7).trans (a1.pR hta))), d2.trans (c2.trans a2), Or.inr ⟨x2, bd.2.1, x3⟩⟩
      · obtain ⟨⟨c, s, e, w, G⟩, y1, y2, y26⟩ := id S3
        have G23 := G.2.2.2.2.2.2.2.2.2.1
        have b4 := G.2.2.2.2.2.1
        have b3 := G.2.2.2.2.2.2.1
        have m2 := G.2.2.2.2.2.2.2.2.2.2.2.2.2.1.2
        have pg : pR ta g9 g := (d1.pR t8).trans ((c1.pR t7).trans (a1.pR hta))
        have ms : mSame k3 h := d2.trans (c2.trans a2)
        have zt := rT_or g
        rw [hta] at zt
        unfold cEnd at hf
        unfold tR2
        rw [if_pos b3]
        by_cases c300 : c = 300
        · rw [if_pos (by omega)] at hf
          cases hf
          rw [if_pos (by unfold isSg at m2; omega)]
          intro o ho
          obtain ⟨e2, e3, e4, e5⟩ := r3_ok o ho
          rw [e2]
          refine ⟨pg, ms, Or.inl ⟨b4, b3, ?_⟩⟩
          -- the ends
          have n1 : nmF k1 = nmF h := a2.nm
          have n2 : nmF k2 = nmF h := (c2.trans a2).nm
          obtain ⟨p1, p2, p3⟩ := em1
          obtain ⟨q1, q2, q3⟩ := em2
          obtain ⟨r1, r2, r3⟩ := em3
          rw [n1] at q3
          rw [n2] at r3
          have in3 := G.2.2.2.2.2.2.2.1
          have tn := G.1.2.1
          have s7 : 0 ≤ (g7 ta 1).toInt := by
            have := S1.2.2.1
            rw [t7] at this
            exact this
          have s8 : 0 ≤ (g8 ta 1).toInt := by
            have := S2.2.2.1
            rw [t8] at this
            exact this
          have s9 : 0 ≤ (g9 ta 1).toInt := by
            have := S3.2.2.1
            rw [t9] at this
            exact this
          have Z7 : rZ g7 = (g7 ta 1).toInt.toNat := by unfold rZ; rw [t7]
          have Z8 : rZ g8 = (g8 ta 1).toInt.toNat := by unfold rZ; rw [t8]
          have Z9 : rZ g9 = (g9 ta 1).toInt.toNat := by unfold rZ; rw [t9]
          have E0 : g9 (ta + 2) 0 = g7 ta 1 := by
            rw [d1 _ _ (by omega) (by rw [t8]; omega) (by rw [t8]; omega) (by omega), c1 _ _ (by omega) (by rw [t7]; omega) (by rw [t7]; omega) (by omega)]
            rw [hta] at en1
            exact en1
          have E1 : g9 (ta + 2) 1 = g8 ta 1 := by
            rw [d1 _ _ (by omega) (by rw [t8]; omega) (by rw [t8]; omega) (by omega)]
            rw [t7] at en2
            exact en2
          have E2 : g9 (ta + 2) 2 = g9 ta 1 := by
            rw [t8] at en3
            exact en3
          have S7 : rS g7 = g7 (ta + 1) := by unfold rS; rw [t7]
          have S8 : rS g8 = g8 (ta + 1) := by unfold rS; rw [t8]
          have S9 : rS g9 = g9 (ta + 1) := by unfold rS; rw [t9]
          have x0 : tA g9 ta 0 = 0 := rfl
          have x1 : tA g9 ta 1 = rZ g7 := by unfold tA; rw [if_neg (by omega), E0, Z7]
          have x2 : tA g9 ta 2 = rZ g8 := by unfold tA; rw [if_neg (by omega), E1, Z8]
          have w0 : tB g9 ta 0 = rZ g7 := by unfold tB; rw [E0, Z7]
          have w1 : tB g9 ta 1 = rZ g8 := by unfold tB; rw [E1, Z8]
          have w2 : tB g9 ta 2 = rZ g9 := by unfold tB; rw [E2, Z9]
          show tOk g9 ta ∧ (∀ pt : Nat, pt < 3 → v2.toInt = pt → tEv g9 ta (nmF h) pt = some [o.1])
          refine ⟨fun pt hpt => ?_, fun pt hpt hv => ?_⟩
          · have : pt = 0 ∨ pt = 1 ∨ pt = 2 := by omega
            rcases this with rfl | rfl | rfl
            · rw [x0, w0, E0]; omega
            · rw [x1, w1, E1]; omega
            · rw [x2, w2, E2]; omega
          · have : pt = 0 ∨ pt = 1 ∨ pt = 2 := by omega
            unfold tEv
            rcases this with rfl | rfl | rfl
            · rw [x0, w0, e3 (by omega), ← S9, exR_congr (g := rS g7) _ _ _ (fun j j1 j2 => (r2 j (by omega)).trans (q2 j (by omega)))]
              have := p3 [] (by decide)
              rw [hz] at this
              exact this
            · rw [x1, w1, e4 (by omega), ← S9, exR_congr (g := rS g8) _ _ _ (fun j j1 j2 => r2 j (by omega))]
              exact q3 [] (by decide)
            · rw [x2, w2, e5 (by omega), ← S9]
              exact r3 [] (by decide)
        · rw [if_neg (by omega)] at hf
          rw [if_neg (by unfold isSg at m2; omega)]
          refine al_oV' (fun k4 hk4 => ?_)
          revert f
          refine al_oV' (fun g12 h12 => al_some ?_)
          obtain ⟨b1', b2', b3', b5'⟩ := G.fail h12 hk4
          intro o ho
          obtain ⟨e2, -⟩ := r3_ok o ho
          rw [e2]
          exact ⟨b2'.pR.trans pg, b3'.trans ms, Or.inr ⟨b1'.1, b1'.2.1, b1'.2.2.1⟩⟩
end PR
/-- a text's bytes -/
def mTx (h : dH) (t : Nat) (B : Nat → Int) (N : Nat) : Prop := (h 2 t).toInt = N ∧ ∀ j, j < N → (h 1 (160 * t + j)).toInt = B j
/-- the reference's heap behind its reading -/
def mRd (g h : dH) : Prop := (∀ a k, ¬ a = 0 → g a k = h a k) ∧ ∀ k, ¬ (20 ≤ k ∧ k ≤ 28) → g 0 k = h 0 k
theorem read_both {ta t : Nat} (hta : zT ta) (ht : t < 6) {v1 : Int32} (hv1 : v1.toInt = t) {g : dH} (c0 : 0 ≤ (g 1 0).toInt) (c1 : (g 1 0).toInt ≤ 160) (cb : ∀ j, j < cN g → 0 ≤ cB g j ∧ cB g j ≤ 255) : Al (f_X1_readInto ta g) (fun f => ∀ (h : dH) (v2 : Int32) (o : Int32 × dH), mTx h t (cB g) (cN g) → f_X7_read v1 v2 h = some o → pR ta f.2 g ∧ mRd o.2 h ∧ ((f.1.toInt = -1 ∧ (o.2 0 27).toInt = 0 ∧ tOk f.2 ta ∧ ∀ pt : Nat, pt < 3 → v2.toInt = pt → tEv f.2 ta (nmF h) pt = some [o.1]) ∨ (¬ f.1.toInt = -1 ∧ ¬ (o.2 0 27).toInt = 0 ∧ (o.2 0 28).toInt = f.1.toInt))) := by
  have zt : ta = 10 ∨ ta = 14 ∨ ta = 18 ∨ ta = 22 ∨ ta = 26 ∨ ta = 30 := hta
  unfold f_X1_readInto
  refine al_oH' (fun g1 h1 => al_oV' (fun g2 h2 => al_oV' (fun g3 h3 => al_oH' (fun g4 h4 => al_oH' (fun g5 h5 => al_oH' (fun g6 h6 => ?_))))))
  have e42 : g1 42 1 = dti ta := by rw [h1]; exact dU_eq
  rw [e42, dtx_dti hta] at h2
  have h2' : g2 = dU g1 ta 1 0 := by
    unfold f_X5_clear at h2
    exact (Option.some.inj h2).symm
  have k2 : ∀ a k, ¬ (a = 42 ∧ k = 1) → ¬ (a = ta ∧ k = 1) → g2 a k = g a k := fun a k q1 q2 => by rw [h2', dU_ne q2, h1, dU_ne q1]
  have B2 : cB g2 = cB g := by funext j; unfold cB; rw [k2 5 j (by omega) (by omega)]
  have N2 : cN g2 = cN g := by unfold cN; rw [k2 1 0 (by omega) (by omega)]
  obtain ⟨F3, P, n, T3⟩ := cut_ok (h := g2) (by rw [k2 1 0 (by omega) (by omega)]; exact c0) (by rw [k2 1 0 (by omega) (by omega)]; exact c1) (by rw [N2, B2]; exact cb) g3 h3
  rw [B2, N2] at T3
  have k6 : ∀ a k, ¬ (a = 42 ∧ 2 ≤ k ∧ k ≤ 4) → g6 a k = g3 a k := fun a k q => by rw [h6, dU_ne (by omega), h5, dU_ne (by omega), h4, dU_ne (by omega)]
  have T6 : Toks (cB g) (cN g) P n g6 := T3.same (fun a k q => k6 a k (by omega))
  have x421 : g6 42 1 = dti ta := by
    rw [k6 42 1 (by omega), F3 42 1 (by omega) (by omega) (by omega) (by omega), h2', dU_ne (by omega), e42]
  have hrT : rT g6 = ta := by unfold rT; rw [x421, dtx_dti hta]
  have hsz : g6 ta 1 = 0 := by rw [k6 ta 1 (by omega), F3 ta 1 (by omega) (by omega) (by omega) (by omega), h2', dU_eq]
  have hz : rZ g6 = 0 := by unfold rZ; rw [hrT, hsz]; decide
  have pg : pR ta g6 g := fun a k a1 a2 a3 a4 a5 a6 => by
    rw [k6 a k (by omega), F3 a k a2 (by omega) (by omega) (by omega), k2 a k (by omega) a4]
  have y2 : (g6 42 2).toInt = 0 := by rw [h6, dU_ne (by omega), h5, dU_ne (by omega), h4, dU_eq]; decide
  have y3 : g6 42 3 = g6 2 0 := by rw [h6, dU_ne (by omega), h5, dU_eq, dU_ne (by omega), dU_ne (by omega)]
  have y4 : (g6 42 4).toInt = -1 := by rw [h6, dU_eq]; decide
  intro f hf
  have hf' : oV (f_X1_readPart 304 0 g6) (fun g7 => oV (f_X1_readPart 305 1 g7) (fun g8 => oV (f_X1_readPart 306 2 g8) (fun g9 => cEnd g9))) = some f := hf
  clear hf
  intro h v2 o hm ho
  rw [read_t] at ho
  unfold tRead at ho
  revert o
  have e160 : (160 * v1).toInt = 160 * (t : Int) := i_mul (by decide) hv1 (by omega) (by omega)
  have cNle : (cN g : Int) ≤ 160 := by unfold cN; omega
  refine al_oH' (fun m1 q1 => al_ite (fun _ => al_oH' (fun m3 q3 => al_oH' (fun m4 q4 => al_oH' (fun m5 q5 => al_oH' (fun m6 q6 => al_oV' (fun m7 q7 => ?_)))))) (fun _ => al_none))
  have et : v1.toInt.toNat = t := by omega
  rw [et] at q3
  have r6 : mRd m6 h := by
    refine ⟨fun a k q => ?_, fun k q => ?_⟩
    · rw [q6, dU_ne (by omega), q5, dU_ne (by omega), q4, dU_ne (by omega), q3, dU_ne (by omega), q1, dU_ne (by omega)]
    · rw [q6, dU_ne (by omega), q5, dU_ne (by omega), q4, dU_ne (by omega), q3, dU_ne (by omega), q1, dU_ne (by omega)]
  have m20 : (m6 0 20).toInt = 160 * (t : Int) := by
    rw [q6, dU_ne (by omega), q5, dU_ne (by omega), q4, dU_ne (by omega), q3, dU_ne (by omega), q1, dU_eq]; exact e160
  have m21 : (m6 0 21).toInt = cN g := by
    rw [q6, dU_ne (by omega), q5, dU_ne (by omega), q4, dU_ne (by omega), q3, dU_eq, q1, dU_ne (by omega)]; exact hm.1
  have m22 : (m6 0 22).toInt = 0 := by rw [q6, dU_ne (by omega), q5, dU_ne (by omega), q4, dU_eq]; decide
  have m26 : (m6 0 26).toInt = 0 := by rw [q6, dU_ne (by omega), q5, dU_eq]; decide
  have m27 : (m6 0 27).toInt = 0 := by rw [q6, dU_eq]; decide
  have ok6 : mOk m6 := by unfold mOk; rw [m20, m21]; omega
  have hB6 : ∀ j, j < cN g → cB g j = mB m6 j := fun j hj => by
    unfold mB
    rw [r6.1 1 _ (by omega), m20, show (160 * (t : Int)).toNat = 160 * t by omega]
    exact (hm.2 j hj).symm
  obtain ⟨⟨c, s, e, w, G⟩, ms, k26⟩ := Good.first (T6.congr hB6) ok6 rfl (by rw [m21]; omega) (fun j hj => by rw [← hB6 j hj]; exact cb j hj) y4 m27 m22 y2 y3 q7
  have S0 : St (mB m6) (cN g) P n 0 0 g6 m7 := ⟨⟨c, s, e, w, G⟩, by omega, by rw [hrT, hsz]; decide, by rw [k26]; exact m26⟩
  intro o ho
  obtain ⟨u1, u2, u3⟩ := parts_both _ _ _ _ hrT hz S0 f hf' o ho
  have nm : nmF m7 = nmF h := by
    rw [ms.nm]
    funext k
    unfold nmF
    by_cases hk : k < 6
    · rw [if_pos hk, if_pos hk]; exact r6.2 _ (by omega)
    · rw [if_neg hk, if_neg hk]
  rw [nm] at u3
  have ms2 := u2.trans ms
  exact ⟨u1.trans pg, ⟨fun a k q => (ms2.1 a k q).trans (r6.1 a k q), fun k q => (ms2.2 k (by omega)).trans (r6.2 k q)⟩, u3⟩
end
