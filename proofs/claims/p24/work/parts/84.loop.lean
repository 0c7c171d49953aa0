/-! operations of one level, one behind the other: both alike -/
noncomputable section
section PR
variable {B : Nat → Int} {N : Nat} {P : Nat → Nat} {n : Nat} {k : Nat}
/-- what the reference's loop of a level does; opc: the level's signs, x c: the class's step for one -/
def LoopM (B : Nat → Int) (N : Nat) (P : Nat → Nat) (n : Nat) (opc : Int → Prop) (x : Int → Int32) (S : dH → Option (Int32 × dH)) (L : Nat → Int32 → dH → Option (Int32 × dH)) : Prop :=
  (∀ acc h, L 0 acc h = none) ∧ (∀ n2 acc h o, ¬ (h 0 27).toInt = 0 → L (n2 + 1) acc h = some o → o = (acc, h)) ∧
  ∀ (n2 : Nat) (acc : Int32) (g h : dH) (o : Int32 × dH) (i : Nat) (c : Int) (s e : Nat) (w : Int), Good B N P n i c s e w g h → L (n2 + 1) acc h = some o → (opc c ∧ (h 0 22).toInt = e ∧ ∃ h1 r h2, f_X7_next h = some h1 ∧ S h1 = some (r, h2) ∧ L n2 (jnd (x c) acc r) h2 = some o) ∨ (¬ opc c ∧ o = (acc, h))
theorem loop_gen {m : Nat} {opc : Int → Prop} {x : Int → Int32} {S : dH → Option (Int32 × dH)} {L : Nat → Int32 → dH → Option (Int32 × dH)} (hL : LoopM B N P n opc x S L) {v1 v2 : Int32} {lv D : Nat} (hv1 : v1.toInt = lv) (hv1' : lv ≤ 4) (hv2 : v2.toInt = k) (hx : ∀ c, opc c → ¬ c = 300 ∧ -14 < (x c).toInt ∧ (x c).toInt < -6)
    (hlev : ∀ (t r : Int32), f_X1_levelOf t = some r → (r.toInt = lv ↔ opc t.toInt)) (hoper : ∀ (t r : Int32), opc t.toInt → f_X1_operationOf t = some r → r = x t.toInt)
    (hS : ∀ (u : Int32) (g h : dH) (i : Nat) (f : dH) (o : Int32 × dH), u.toInt = lv + 1 → St B N P n k i g h → f_X1_read m u v2 g = some f → S h = some o → Out B N P n k D i g h f o) {i0 : Nat} {g0 h0 : dH} : ∀ (n1 n2 : Nat) (v4 acc : Int32) (g h : dH) (i : Nat) (f : dH) (o : Int32 × dH), 0 ≤ v4.toInt → v4.toInt ≤ i → St B N P n k i g h → pF g g0 → mSame h h0 → i0 < i → rZ g + i0 ≤ rZ g0 + i → Em (nmF h0) (D + 1) acc g0 g → l_X1_read_76 (f_X1_read m) v1 v2 160 (fun f => some f) n1 v4 g = some f → L n2 acc h = some o → Out B N P n k (D + 1) i0 g0 h0 f o
  | 0, _, _, _, _, _, _, _, _, _, _, _, _, _, _, _, _, hf, _ => by cases hf
  | n1 + 1, 0, v4, acc, g, h, i, f, o, _, _, _, _, _, _, _, _, _, ho => by rw [hL.1] at ho; cases ho
  | n1 + 1, n2 + 1, v4, acc, g, h, i, f, o, p0, p1, hs, pf, ms, hi, hz, em, hf, ho => by
    obtain ⟨⟨c, s, e, w, G⟩, z1, z2, z3⟩ := id hs
    have g3 := G.2.2.2.2.2.2.2.2.2.1
    have hin := G.2.2.2.2.2.2.2.1
    have tn := G.1.2.1
    have hn := G.2.2.2.2.2.2.2.2.2.2.2.2.2.2
    have t160 : (160 : Int32).toInt = 160 := by decide
    rw [l_X1_read_76] at hf
    have exit : ¬ opc c → Out B N P n k (D + 1) i0 g0 h0 g o := by
      intro hc
      rcases hL.2.2 n2 acc g h o i c s e w G ho with ⟨q, -⟩ | ⟨-, q⟩
      · exact absurd q hc
      · subst q
        exact ⟨pf, ms, z3, Or.inr ⟨i, hs, hi, hz, em⟩⟩
    revert f
    refine al_ite (fun c1 => al_oP (fun r hr => al_ite (fun c2 => al_oP (fun r2 hr2 => al_oV' (fun g23 h23 => al_oV' (fun g24 h24 => al_oV' (fun g25 h25 => ?_))))) (fun c2 => ?_))) (fun c1 => ?_)
    · intro f hf
      have hop : opc c := by rw [← g3]; exact (hlev _ _ hr).mp (by omega)
      have ex : r2 = x c := by rw [← g3]; exact hoper _ _ (by rw [g3]; exact hop) hr2
      obtain ⟨x1, x2, x3⟩ := hx c hop
      rcases hL.2.2 n2 acc g h o i c s e w G ho with ⟨-, he, m1, r9, m2, q1, q2, q3⟩ | ⟨q, -⟩
      · obtain ⟨⟨c', s', e', w', G1⟩, r1, mm1, k26⟩ := G.next x1 he h23 q1
        have tv : (v1 + 1).toInt = (lv : Int) + 1 := i_add hv1 (by decide) (by omega) (by omega)
        have tv4 : (v4 + 1).toInt = v4.toInt + 1 := i_add rfl (by decide) (by omega) (by omega)
        have S1 : St B N P n k (i + 1) g23 m1 := ⟨⟨c', s', e', w', G1⟩, by rw [r1.same.2.1]; omega, by rw [r1.size]; exact z2, by rw [k26]; exact z3⟩
        obtain ⟨o1, o2, o3, o4⟩ := hS (v1 + 1) g23 m1 (i + 1) g24 (r9, m2) tv S1 h24 q2
        simp only at o2 o3 o4
        rcases o4 with bd | ⟨i', S2, j1, j2, em2⟩
        · obtain ⟨p, q⟩ := write_any g25 h25
          have b25 : Bad g25 m2 := bd.eq q (fun _ _ => rfl)
          have st := cbad_loop (rec := f_X1_read m) (v2 := v2) (v3 := 160) (show 0 ≤ v1.toInt by omega) n1 (v4 + 1) g25 b25.cb f hf
          cases n2 with
          | zero => rw [hL.1] at q3; cases q3
          | succ n2 =>
            have eo := hL.2.1 n2 _ m2 o bd.2.1 q3
            subst eo
            exact Out.bad (st.1.pF.trans (p.trans (o1.trans (r1.pF.trans pf)))) (o2.trans (mm1.trans ms)) o3 (b25.stay st)
        · obtain ⟨⟨c2', s2, e2, w2, G2⟩, y1, y2, y3⟩ := S2
          have in2 := G2.2.2.2.2.2.2.2.1
          have e23 := r1.same.2.1
          obtain ⟨wr, p, q, y0⟩ := Wr.of y2 (by omega) h25
          have em3 : Em (nmF h0) D r9 g g24 := (em2.nm ((mm1.trans ms).nm)).left r1
          have em4 := em.bin em3 (by rw [ex] at wr; exact wr) ⟨x2, x3⟩ (by omega)
          exact loop_gen hL hv1 hv1' hv2 hx hlev hoper hS n1 n2 (v4 + 1) (jnd (x c) acc r9) g25 m2 i' f o (by omega) (by omega) ⟨⟨c2', s2, e2, w2, G2.wr p q⟩, by rw [wr.1]; omega, y0, y3⟩ (p.trans (o1.trans (r1.pF.trans pf))) (o2.trans (mm1.trans ms)) (by omega) (by rw [wr.1]; omega) em4 hf q3
      · exact absurd hop q
    · refine al_some (exit ?_)
      intro hop
      exact c2 (by rw [hv1]; exact (hlev _ _ hr).mpr (by rw [g3]; exact hop))
    · refine al_some (exit ?_)
      intro hop
      have := hn (hx c hop).1
      omega
end PR
end
