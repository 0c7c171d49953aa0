/-! a level: its first piece, its loop -/
noncomputable section
section PR
variable {B : Nat → Int} {N : Nat} {P : Nat → Nat} {n : Nat} {k : Nat}
theorem level_gen {m : Nat} {opc : Int → Prop} {x : Int → Int32} {S F : dH → Option (Int32 × dH)} {L : Nat → Int32 → dH → Option (Int32 × dH)} (hL : LoopM B N P n opc x S L) (hF : ∀ h, F h = oI (S h) (fun r g => L fuel0 r g)) {v1 v2 : Int32} {lv D : Nat} (hv1 : v1.toInt = lv) (hv1' : lv ≤ 4) (hlv2 : ¬ lv = 2) (hv2 : v2.toInt = k) (hx : ∀ c, opc c → ¬ c = 300 ∧ -14 < (x c).toInt ∧ (x c).toInt < -6)
    (hlev : ∀ (t r : Int32), f_X1_levelOf t = some r → (r.toInt = lv ↔ opc t.toInt)) (hoper : ∀ (t r : Int32), opc t.toInt → f_X1_operationOf t = some r → r = x t.toInt)
    (hS : ∀ (u : Int32) (g h : dH) (i : Nat) (f : dH) (o : Int32 × dH), u.toInt = lv + 1 → St B N P n k i g h → f_X1_read m u v2 g = some f → S h = some o → Out B N P n k D i g h f o) {g h : dH} {i : Nat} (hs : St B N P n k i g h) (f : dH) (o : Int32 × dH) (hf : f_X1_read (m + 1) v1 v2 g = some f) (ho : F h = some o) : Out B N P n k (D + 1) i g h f o := by
  have hf' : f_X1_readB (f_X1_read m) v1 v2 g = some f := hf
  clear hf
  rw [hF] at ho
  have tv : (v1 + 1).toInt = (lv : Int) + 1 := i_add hv1 (by decide) (by omega) (by omega)
  revert f
  unfold f_X1_readB
  refine al_ite (fun z => by omega) (fun _ => al_ite (fun z => by omega) (fun z2 => al_oV' (fun g1 h1 => ?_)))
  rw [if_neg z2]
  intro f hf
  revert o
  refine al_oI (fun r1 m1 hr => ?_)
  intro o ho
  obtain ⟨o1, o2, o3, o4⟩ := hS (v1 + 1) g h i g1 (r1, m1) tv hs h1 hr
  simp only at o2 o3 o4
  rcases o4 with bd | ⟨i', S1, j1, j2, em⟩
  · have st := cbad_loop (rec := f_X1_read m) (v2 := v2) (v3 := 160) (show 0 ≤ v1.toInt by omega) fuel0 0 g1 bd.cb f hf
    have eo := hL.2.1 999 _ m1 o bd.2.1 ho
    subst eo
    exact Out.bad (st.1.pF.trans o1) o2 o3 (bd.stay st)
  · exact loop_gen hL hv1 hv1' hv2 hx hlev hoper hS fuel0 fuel0 0 r1 g1 m1 i' f o (by rw [ti0]; omega) (by rw [ti0]; omega) S1 o1 o2 j1 (by omega) (em.mono (by omega)) hf ho
theorem jnd_mul (a b : Int32) : jnd (-13) a b = a * b := by
  unfold jnd
  rw [if_neg (by decide), if_neg (by decide), if_neg (by decide), if_neg (by decide), if_neg (by decide), if_neg (by decide)]
theorem jnd_add (a b : Int32) : jnd (-11) a b = a + b := by
  unfold jnd
  rw [if_neg (by decide), if_neg (by decide), if_neg (by decide), if_neg (by decide), if_pos (by decide)]
theorem jnd_sub (a b : Int32) : jnd (-12) a b = a - b := by
  unfold jnd
  rw [if_neg (by decide), if_neg (by decide), if_neg (by decide), if_neg (by decide), if_neg (by decide), if_pos (by decide)]
theorem jnd_or (a b : Int32) : jnd (-7) a b = if ¬ a.toInt = 0 ∨ ¬ b.toInt = 0 then 1 else 0 := if_pos (by decide)
theorem jnd_and (a b : Int32) : jnd (-8) a b = if ¬ a.toInt = 0 ∧ ¬ b.toInt = 0 then 1 else 0 := by
  unfold jnd
  rw [if_neg (by decide), if_pos (by decide)]
/-- times -/
theorem loopM_term {S : dH → Option (Int32 × dH)} {L : Nat → Int32 → dH → Option (Int32 × dH)} (h0 : ∀ acc h, L 0 acc h = none) (h1 : ∀ n2 acc h, L (n2 + 1) acc h = oP (f_X7_isSign 42 h) (fun r3 => if r3.toInt = 0 then some (acc, h) else (oV (f_X7_next h) (fun g6 => oI (S g6) (fun r7 g8 => L n2 (acc * r7) g8))))) : LoopM B N P n (fun c => c = 42) (fun _ => -13) S L := by
  refine ⟨h0, fun n2 acc h o hb ho => ?_, fun n2 acc g h o i c s e w G ho => ?_⟩
  · rw [h1] at ho
    revert o
    refine al_oP (fun r hr => ?_)
    rw [if_pos (bad_sign hb r hr)]
    exact al_some rfl
  · rw [h1] at ho
    revert o
    refine al_oP (fun r hr => ?_)
    have sg := G.sign (v := 42) (by unfold isSg; decide) r hr
    rw [show (42 : Int32).toInt = 42 by decide] at sg
    refine al_ite (fun z => al_some (Or.inr ⟨by omega, rfl⟩)) (fun z => al_oV' (fun m1 hm => al_oI (fun r7 m2 hs => fun o ho => Or.inl ⟨by omega, by omega, m1, r7, m2, hm, hs, ?_⟩)))
    rw [jnd_mul]
    exact ho
/-- and -/
theorem loopM_both {S : dH → Option (Int32 × dH)} {L : Nat → Int32 → dH → Option (Int32 × dH)} (h0 : ∀ acc h, L 0 acc h = none) (h1 : ∀ n2 acc h, L (n2 + 1) acc h = oP (f_X7_isWord 97 110 100 0 0 0 0 0 h) (fun r3 => if r3.toInt = 0 then some (acc, h) else (oV (f_X7_next h) (fun g6 => oI (S g6) (fun r7 g8 => if acc.toInt = 0 then (L n2 0 g8) else (if r7.toInt = 0 then (L n2 0 g8) else (L n2 1 g8))))))) : LoopM B N P n (fun c => c = 308) (fun _ => -8) S L := by
  refine ⟨h0, fun n2 acc h o hb ho => ?_, fun n2 acc g h o i c s e w G ho => ?_⟩
  · rw [h1] at ho
    revert o
    refine al_oP (fun r hr => ?_)
    rw [if_pos (bad_word hb r hr)]
    exact al_some rfl
  · rw [h1] at ho
    revert o
    refine al_oP (fun r hr => ?_)
    have sg := G.key (k := 4) (by omega) (by decide) r hr
    refine al_ite (fun z => al_some (Or.inr ⟨by omega, rfl⟩)) (fun z => al_oV' (fun m1 hm => al_oI (fun r7 m2 hs => fun o ho => Or.inl ⟨by omega, by omega, m1, r7, m2, hm, hs, ?_⟩)))
    rw [jnd_and]
    by_cases a : acc.toInt = 0
    · rw [if_pos a] at ho
      rw [if_neg (by omega)]
      exact ho
    · rw [if_neg a] at ho
      by_cases b : r7.toInt = 0
      · rw [if_pos b] at ho
        rw [if_neg (by omega)]
        exact ho
      · rw [if_neg b] at ho
        rw [if_pos ⟨a, b⟩]
        exact ho
/-- or -/
theorem loopM_either {S : dH → Option (Int32 × dH)} {L : Nat → Int32 → dH → Option (Int32 × dH)} (h0 : ∀ acc h, L 0 acc h = none) (h1 : ∀ n2 acc h, L (n2 + 1) acc h = oP (f_X7_isWord 111 114 0 0 0 0 0 0 h) (fun r3 => if r3.toInt = 0 then some (acc, h) else (oV (f_X7_next h) (fun g6 => oI (S g6) (fun r7 g8 => if acc.toInt = 0 then (if r7.toInt = 0 then (L n2 0 g8) else (L n2 1 g8)) else (L n2 1 g8)))))) : LoopM B N P n (fun c => c = 307) (fun _ => -7) S L := by
  refine ⟨h0, fun n2 acc h o hb ho => ?_, fun n2 acc g h o i c s e w G ho => ?_⟩
  · rw [h1] at ho
    revert o
    refine al_oP (fun r hr => ?_)
    rw [if_pos (bad_word hb r hr)]
    exact al_some rfl
  · rw [h1] at ho
    revert o
    refine al_oP (fun r hr => ?_)
    have sg := G.key (k := 3) (by omega) (by decide) r hr
    refine al_ite (fun z => al_some (Or.inr ⟨by omega, rfl⟩)) (fun z => al_oV' (fun m1 hm => al_oI (fun r7 m2 hs => fun o ho => Or.inl ⟨by omega, by omega, m1, r7, m2, hm, hs, ?_⟩)))
    rw [jnd_or]
    by_cases a : acc.toInt = 0
    · rw [if_pos a] at ho
      by_cases b : r7.toInt = 0
      · rw [if_pos b] at ho
        rw [if_neg (by omega)]
        exact ho
      · rw [if_neg b] at ho
        rw [if_pos (Or.inr b)]
        exact ho
    · rw [if_neg a] at ho
      rw [if_pos (Or.inl a)]
      exact ho
end PR
end
