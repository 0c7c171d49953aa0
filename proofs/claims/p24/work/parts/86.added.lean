/-! the loop of sums -/
noncomputable section
section PR
variable {B : Nat → Int} {N : Nat} {P : Nat → Nat} {n : Nat} {k : Nat}
theorem Good.worth {i : Nat} {c : Int} {s e : Nat} {w : Int} {g h : dH} (G : Good B N P n i c s e w g h) (hc : isSg c) : (dlcmp (h 0 25).toInt64 43).toInt = 0 ↔ c = 43 := by
  obtain ⟨t, o, hB, hN, hb, b4, b27, hi, g2, g3, tk, gs, gw, mt, hn⟩ := G
  have hd := dlcmp_ok (h 0 25).toInt64 43
  rw [l_i2l, show (43 : Int64).toInt = 43 by decide] at hd
  have m2 := mt.2
  unfold isSg at hc m2
  omega
theorem loopM_added {S : dH → Option (Int32 × dH)} {L : Nat → Int32 → dH → Option (Int32 × dH)} (h0 : ∀ acc h, L 0 acc h = none) (h1 : ∀ n2 acc h, L (n2 + 1) acc h = oP (f_X7_isSign 43 h) (fun r3 => if r3.toInt = 0 then (oP (f_X7_isSign 45 h) (fun r6 => if r6.toInt = 0 then some (acc, h) else (if (dlcmp (h 0 25).toInt64 43).toInt = 0 then (oV (f_X7_next h) (fun g11 => oI (S g11) (fun r12 g13 => L n2 (acc + r12) g13))) else (oV (f_X7_next h) (fun g14 => oI (S g14) (fun r15 g16 => L n2 (acc - r15) g16)))))) else (if (dlcmp (h 0 25).toInt64 43).toInt = 0 then (oV (f_X7_next h) (fun g19 => oI (S g19) (fun r20 g21 => L n2 (acc + r20) g21))) else (oV (f_X7_next h) (fun g22 => oI (S g22) (fun r23 g24 => L n2 (acc - r23) g24)))))) : LoopM B N P n (fun c => c = 43 ∨ c = 45) (fun c => if c = 43 then -11 else -12) S L := by
  refine ⟨h0, fun n2 acc h o hb ho => ?_, fun n2 acc g h o i c s e w G ho => ?_⟩
  · rw [h1] at ho
    revert o
    refine al_oP (fun r hr => ?_)
    rw [if_pos (bad_sign hb r hr)]
    refine al_oP (fun r hr => ?_)
    rw [if_pos (bad_sign hb r hr)]
    exact al_some rfl
  · rw [h1] at ho
    revert o
    refine al_oP (fun r hr => ?_)
    have sg := G.sign (v := 43) (by unfold isSg; decide) r hr
    rw [show (43 : Int32).toInt = 43 by decide] at sg
    have wo := G.worth
    unfold isSg at wo
    refine al_ite (fun z => al_oP (fun r6 hr6 => ?_)) (fun z => al_ite (fun d => al_oV' (fun m1 hm => al_oI (fun r7 m2 hs => fun o ho => Or.inl ⟨Or.inl (by omega), by omega, m1, r7, m2, hm, hs, ?_⟩))) (fun d => absurd ((wo (by omega)).mpr (by omega)) d))
    · have sg2 := G.sign (v := 45) (by unfold isSg; decide) r6 hr6
      rw [show (45 : Int32).toInt = 45 by decide] at sg2
      refine al_ite (fun z6 => al_some (Or.inr ⟨by omega, rfl⟩)) (fun z6 => al_ite (fun d => absurd ((wo (by omega)).mp d) (by omega)) (fun _ => al_oV' (fun m1 hm => al_oI (fun r7 m2 hs => fun o ho => Or.inl ⟨Or.inr (by omega), by omega, m1, r7, m2, hm, hs, ?_⟩))))
      show L n2 (jnd (if c = 43 then -11 else -12) acc r7) m2 = some o
      rw [if_neg (by omega), jnd_sub]
      exact ho
    · show L n2 (jnd (if c = 43 then -11 else -12) acc r7) m2 = some o
      rw [if_pos (by omega), jnd_add]
      exact ho
end PR
end
