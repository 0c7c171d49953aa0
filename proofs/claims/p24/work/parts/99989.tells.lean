/-! what a sheet tells: what stays of it -/
noncomputable section
theorem cFr.u {g h h0 : dH} (q : cFr 57 h h0) {a k : Nat} {x : Int32} (ha : (57 ≤ a ∧ a ≤ 70) ∨ (13 ≤ a ∧ a ≤ 33 ∧ a % 4 = 1)) (hg : g = dU h a k x) : cFr 57 g h0 := fun b j y z => by
  rw [hg, dU_ne (by omega)]; exact q b j y z
theorem zTm {a : Nat} (ha : zT a) : 13 ≤ a + 3 ∧ a + 3 ≤ 33 ∧ (a + 3) % 4 = 1 := by unfold zT at ha; omega
theorem value_23_f {a : Nat} (ha : zT a) {v1 : Int32} {a2 : Nat} {h0 : dH} {k : Int32 → dH → Option (Int32 × dH)} {P : Int32 × dH → Prop} (K : ∀ v g, cFr 57 g h0 → Al (k v g) P) : ∀ (n : Nat) (v4 v5 : Int32) (h : dH), cFr 57 h h0 → Al (l_X5_value_23 a v1 a2 k n v4 v5 h) P
  | 0, _, _, _, _ => al_none
  | n + 1, v4, v5, h, q => by
    have z := zTm ha
    rw [l_X5_value_23]
    have R : ∀ w4 w5 g, cFr 57 g h0 → Al (l_X5_value_23 a v1 a2 k n w4 w5 g) P := value_23_f ha K n
    have W : ∀ w4 w5 j x, Al (oH (dU h (a + 3) j x) (fun g => l_X5_value_23 a v1 a2 k n w4 w5 g)) P := fun w4 w5 j x => al_oH' (fun g hg => R _ _ g (q.u (Or.inr z) hg))
    exact al_ite (fun _ => al_ite (fun _ => al_ite (fun _ => al_ite (fun _ => al_ite (fun _ => al_ite (fun _ => al_ite (fun _ => al_ite (fun _ => al_oP (fun _ _ => al_ite (fun _ => W _ _ _ _) (fun _ => al_none))) (fun _ => al_none)) (fun _ => al_none)) (fun _ => R _ _ _ q)) (fun _ => al_ite (fun _ => al_ite (fun _ => al_oP (fun _ _ => al_ite (fun _ => W _ _ _ _) (fun _ => al_none))) (fun _ => al_none)) (fun _ => R _ _ _ q))) (fun _ => al_ite (fun _ => al_ite (fun _ => al_ite (fun _ => al_ite (fun _ => W _ _ _ _) (fun _ => al_none)) (fun _ => al_none)) (fun _ => al_ite (fun _ => W _ _ _ _) (fun _ => al_none))) (fun _ => R _ _ _ q))) (fun _ => al_none)) (fun _ => K _ _ q)) (fun _ => al_none)
theorem value_f {a : Nat} (ha : zT a) {v1 : Int32} {a2 : Nat} {h h0 : dH} (q : cFr 57 h h0) : Al (f_X5_value a v1 a2 h) (fun o => cFr 57 o.2 h0) := by
  unfold f_X5_value
  exact al_ite (fun _ => value_23_f ha (fun v g x => al_ite (fun _ => al_some x) (fun _ => al_some x)) _ _ _ h q) (fun _ => al_ite (fun _ => value_23_f ha (fun v g x => al_ite (fun _ => al_some x) (fun _ => al_some x)) _ _ _ h q) (fun _ => al_none))
theorem look_f {v1 v2 : Int32} {h h0 : dH} (q : cFr 57 h h0) : Al (f_X3_look 57 v1 v2 h) (fun g => cFr 57 g h0) := by
  unfold f_X3_look
  have L : (57 ≤ 57 + 13 ∧ 57 + 13 ≤ 70) ∨ (13 ≤ 57 + 13 ∧ 57 + 13 ≤ 33 ∧ (57 + 13) % 4 = 1) := by omega
  exact al_ite (fun _ => al_ite (fun _ => al_oH' (fun g3 q3 => al_ite (fun _ => al_oH' (fun g5 q5 => al_ite (fun _ => al_oH' (fun g7 q7 => al_ite (fun _ => al_oP (fun r9 _ => al_oH' (fun g10 q10 => al_oH' (fun g11 q11 => al_oH' (fun g12 q12 => al_some ((((((q.u L q3).u L q5).u L q7).u L q10).u L q11).u L q12)))))) (fun _ => al_none))) (fun _ => al_none))) (fun _ => al_none))) (fun _ => al_none)) (fun _ => al_none)
theorem meets_f {v1 v2 : Int32} {h h0 : dH} (q : cFr 57 h h0) : Al (f_X3_meets 57 v1 v2 h) (fun o => cFr 57 o.2 h0) := by
  unfold f_X3_meets
  refine al_oV' (fun g1 h1 => al_oI (fun r2 g3 h3 => ?_))
  have x1 := look_f q g1 h1
  have x3 : cFr 57 g3 h0 := value_f (zT_dtx _) x1 (r2, g3) h3
  repeat' (first | exact al_none | exact al_some x3 | refine al_ite (fun _ => ?_) (fun _ => ?_))
theorem tie_f {v1 v2 v3 : Int32} {h h0 : dH} (q : cFr 57 h h0) : Al (f_X3_tie 57 v1 v2 v3 h) (fun g => cFr 57 g h0) := by
  unfold f_X3_tie
  exact al_ite (fun c => al_ite (fun d => al_oH' (fun g2 q2 => al_ite (fun _ => al_ite (fun _ => al_oH' (fun g5 q5 => al_some ((q.u (Or.inl (by omega)) q2).u (Or.inl (by omega)) q5))) (fun _ => al_none)) (fun _ => al_none))) (fun _ => al_none)) (fun _ => al_none)
theorem holdFeast_14_f {v1 : Int32} {h0 : dH} {k : dH → Option dH} {P : dH → Prop} (K : ∀ g, cFr 57 g h0 → Al (k g) P) : ∀ (n : Nat) (v2 : Int32) (h : dH), cFr 57 h h0 → Al (l_X3_holdFeast_14 57 v1 k n v2 h) P
  | 0, _, _, _ => al_none
  | n + 1, v2, h, q => by
    rw [l_X3_holdFeast_14]
    have R : ∀ w2 g, cFr 57 g h0 → Al (l_X3_holdFeast_14 57 v1 k n w2 g) P := holdFeast_14_f K n
    exact al_ite (fun _ => al_ite (fun _ => al_ite (fun _ => R _ _ q) (fun _ => al_ite (fun _ => al_ite (fun _ => al_ite (fun _ => al_oI (fun r12 g13 h13 => al_oI (fun r14 g15 h15 => al_ite (fun _ => al_ite (fun _ => al_oV' (fun g18 h18 => R _ _ (tie_f (meets_f (meets_f q (r12, g13) h13) (r14, g15) h15) g18 h18))) (fun _ => al_none)) (fun _ => al_none)))) (fun _ => R _ _ q)) (fun _ => al_none)) (fun _ => al_none))) (fun _ => al_none)) (fun _ => K _ q)
theorem holdFeast_2_f {h0 : dH} {k : dH → Option dH} {P : dH → Prop} (K : ∀ g, cFr 57 g h0 → Al (k g) P) : ∀ (n : Nat) (v1 : Int32) (h : dH), cFr 57 h h0 → Al (l_X3_holdFeast_2 57 k n v1 h) P
  | 0, _, _, _ => al_none
  | n + 1, v1, h, q => by
    rw [l_X3_holdFeast_2]
    have R : ∀ w1 g, cFr 57 g h0 → Al (l_X3_holdFeast_2 57 k n w1 g) P := holdFeast_2_f K n
    exact al_ite (fun _ => holdFeast_14_f (fun g x => R _ g x) _ _ h q) (fun _ => K _ q)
theorem holdFeast_f {h h0 : dH} (q : cFr 57 h h0) : Al (f_X3_holdFeast 57 h) (fun g => cFr 57 g h0) := holdFeast_2_f (fun g x => al_some x) _ _ h q
theorem become_f {h h0 : dH} (q : cFr 57 h h0) : Al (f_X3_become 57 43 h) (fun g => cFr 57 g h0) := fun g hg b k y z => by
  rw [(become_ok (Or.inr (Or.inl rfl)) (Or.inl rfl) (by decide) h g hg).2.2.2.2.2.2 b k (by omega)]
  exact q b k y z
theorem suppose_f {v1 v2 v3 : Int32} {h h0 : dH} (q : cFr 57 h h0) : Al (f_X6_suppose v1 v2 v3 h) (fun g => cFr 57 g h0) := by
  unfold f_X6_suppose
  exact al_ite (fun _ => al_ite (fun _ => al_oH' (fun g hg => al_some (q.u (Or.inl (by omega)) hg))) (fun _ => al_none)) (fun _ => al_ite (fun _ => al_ite (fun _ => al_oH' (fun g hg => al_some (q.u (Or.inl (by omega)) hg))) (fun _ => al_none)) (fun _ => al_ite (fun _ => al_ite (fun _ => al_oH' (fun g hg => al_some (q.u (Or.inl (by omega)) hg))) (fun _ => al_none)) (fun _ => al_ite (fun _ => al_oH' (fun g hg => al_some (q.u (Or.inl (by omega)) hg))) (fun _ => al_none))))
theorem possible_13_f {a1 : Nat} {v2 v3 v5 : Int32} {h0 : dH} {k : Int32 → dH → Option (Int32 × dH)} {P : Int32 × dH → Prop} (K : ∀ v g, cFr 57 g h0 → Al (k v g) P) : ∀ (n : Nat) (v4 v6 : Int32) (h : dH), cFr 57 h h0 → Al (l_X6_possible_13 a1 v2 v3 v5 k n v4 v6 h) P
  | 0, _, _, _, _ => al_none
  | n + 1, v4, v6, h, q => by
    rw [l_X6_possible_13]
    have R : ∀ w4 w6 g, cFr 57 g h0 → Al (l_X6_possible_13 a1 v2 v3 v5 k n w4 w6 g) P := possible_13_f K n
    exact al_ite (fun _ => al_oV' (fun g4 h4 => al_oV' (fun g5 h5 => al_oV' (fun g6 h6 => al_ite (fun _ => al_oP (fun r8 _ => al_ite (fun _ => R _ _ _ (holdFeast_f (suppose_f (become_f q g4 h4) g5 h5) g6 h6)) (fun _ => R _ _ _ (holdFeast_f (suppose_f (become_f q g4 h4) g5 h5) g6 h6)))) (fun _ => al_none))))) (fun _ => K _ _ q)
theorem tells6 (v1 v2 v3 : Int32) (h : dH) : Al (f_X6_tells v1 v2 v3 h) (fun o => cV o.2 h) := by
  have q := cFr.refl 57 h
  unfold f_X6_tells
  refine al_oP (fun r1 _ => al_ite (fun _ => al_some (cV.refl h)) (fun _ => al_oP (fun r4 _ => al_ite (fun _ => al_some (cV.refl h)) (fun _ => al_ite (fun _ => al_some (cV.refl h)) (fun _ => al_ite (fun _ => al_some (cV.refl h)) (fun _ => al_ite (fun _ => al_oP (fun r12 _ => al_ite (fun _ => al_ite (fun _ => al_ite (fun _ => al_oI (fun r g hr => al_some ?_)) (fun _ => al_ite (fun _ => al_oP (fun _ _ => al_some (cV.refl h))) (fun _ => al_ite (fun _ => al_oP (fun _ _ => al_some (cV.refl h))) (fun _ => al_oI (fun r g hr => al_some ?_))))) (fun _ => al_some (cV.refl h))) (fun _ => al_some (cV.refl h)))) (fun _ => al_none)))))))
  · refine (show Al (f_X6_otherwise (34 + 2 * v1.toInt.toNat) v2 h) (fun o => cV o.2 h) from ?_) (r, g) hr
    unfold f_X6_otherwise
    exact al_oV' (fun g1 h1 => al_oV' (fun g2 h2 => al_ite (fun _ => al_oP (fun _ _ => al_some (holdFeast_f (become_f q g1 h1) g2 h2).v)) (fun _ => al_none)))
  · refine (show Al (f_X6_possible (34 + 2 * v1.toInt.toNat) v2 v3 h) (fun o => cV o.2 h) from ?_) (r, g) hr
    unfold f_X6_possible
    exact al_oP (fun r1 _ => possible_13_f (fun v g x => al_some x.v) _ _ _ h q)
/-! the reference -/
theorem unlike_13_f {v1 v2 : Int32} {h : dH} {k : Int32 → Option (Int32 × dH)} {P : Int32 × dH → Prop} (K : ∀ v, Al (k v) P) : ∀ (n : Nat) (v3 v4 : Int32), Al (l_X7_unlike_13 v1 v2 h k n v3 v4) P
  | 0, _, _ => al_none
  | n + 1, v3, v4 => by
    rw [l_X7_unlike_13]
    have R : ∀ w3 w4, Al (l_X7_unlike_13 v1 v2 h k n w3 w4) P := unlike_13_f K n
    exact al_ite (fun _ => al_oP (fun _ _ => al_ite (fun _ => al_ite (fun _ => R _ _) (fun _ => R _ _)) (fun _ => al_none))) (fun _ => K _)
theorem unlike_f {Y : zY} {y : Int32} {st : zT2} {h : dH} (M : SM Y y st h) (v1 v2 : Int32) : Al (f_X7_unlike v1 v2 h) (fun o => bFr o.2 h) := by
  unfold f_X7_unlike
  refine al_oV' (fun g1 h1 => al_oV' (fun g2 h2 => unlike_13_f (fun v => al_oV' (fun g h3 => al_some ?_)) _ _ _))
  have q1 := laysAside_ok h g1 h1
  obtain ⟨-, f2⟩ := feasts_ok (aside_sm M q1) g2 h2
  exact back_b q1 f2.w (laysBack_ok g2 g h3)
theorem limitsBy_31_f {v1 v2 : Int32} {h : dH} {k : Int32 → Option (Int32 × dH)} {P : Int32 × dH → Prop} (K : ∀ v, Al (k v) P) : ∀ (n : Nat) (v7 v8 : Int32), Al (l_X7_limitsBy_31 v1 v2 h k n v7 v8) P
  | 0, _, _ => al_none
  | n + 1, v7, v8 => by
    rw [l_X7_limitsBy_31]
    have R : ∀ w3 w4, Al (l_X7_limitsBy_31 v1 v2 h k n w3 w4) P := limitsBy_31_f K n
    exact al_ite (fun _ => al_ite (fun _ => R _ _) (fun _ => al_ite (fun _ => R _ _) (fun _ => al_oP (fun _ _ => al_ite (fun _ => al_ite (fun _ => al_ite (fun _ => R _ _) (fun _ => R _ _)) (fun _ => al_ite (fun _ => R _ _) (fun _ => R _ _))) (fun _ => al_none))))) (fun _ => K _)
theorem limitsBy_18_f {v1 v2 : Int32} {h0 : dH} {k : Int32 → Int32 → dH → Option (Int32 × dH)} {P : Int32 × dH → Prop} (K : ∀ v w g, (∀ a j, ¬ (a = 0 ∧ j = 8) → g a j = h0 a j) → Al (k v w g) P) : ∀ (n : Nat) (v5 v6 : Int32) (h : dH), (∀ a j, ¬ (a = 0 ∧ j = 8) → h a j = h0 a j) → Al (l_X7_limitsBy_18 v1 v2 k n v5 v6 h) P
  | 0, _, _, _, _ => al_none
  | n + 1, v5, v6, h, q => by
    rw [l_X7_limitsBy_18]
    have R : ∀ w3 w4 g x, g = dU h 0 8 x → Al (l_X7_limitsBy_18 v1 v2 k n w3 w4 g) P := fun w3 w4 g x e => limitsBy_18_f K n w3 w4 g (fun a j z => by rw [e, dU_ne z]; exact q a j z)
    exact al_ite (fun _ => limitsBy_31_f (fun v => al_ite (fun _ => al_ite (fun _ => al_oH' (fun g hg => R _ _ g _ hg)) (fun _ => al_oH' (fun g hg => R _ _ g _ hg))) (fun _ => al_ite (fun _ => al_oH' (fun g hg => R _ _ g _ hg)) (fun _ => al_oH' (fun g hg => R _ _ g _ hg)))) _ _ _) (fun _ => K _ _ _ q)
theorem limitsBy_f (v1 v2 v3 : Int32) (h : dH) : Al (f_X7_limitsBy v1 v2 v3 h) (fun o => bFr o.2 h) := by
  unfold f_X7_limitsBy
  refine al_oH' (fun g1 q1 => limitsBy_18_f (h0 := h) (fun v w g x => al_oH' (fun g35 q35 => ?_)) _ _ _ g1 (fun a j z => by rw [q1]; exact dU_ne z))
  have e : bFr g35 h := fun a k _ _ _ _ => by
    by_cases c : a = 0 ∧ k = 8
    · rw [c.1, c.2, q35]; exact dU_eq
    · rw [q35, dU_ne c]; exact x a k c
  exact al_ite (fun _ => al_some e) (fun _ => al_some e)
def cA (v : Int32) : Nat := if v.toInt = 2 then 5 else if v.toInt = 3 then 6 else if v.toInt = 4 then 4 else 0
def cK (v w : Int32) : Nat := if v.toInt = 5 then 4 else w.toInt.toNat
theorem lays_f {v1 v2 v3 : Int32} (h2 : 2 ≤ v1.toInt ∧ v1.toInt ≤ 5) {h : dH} : Al (f_X7_lays v1 v2 v3 h) (fun g => g = dU h (cA v1) (cK v1 v2) v3) := by
  unfold f_X7_lays cA cK
  refine al_ite (fun z => by omega) (fun _ => al_ite (fun z => by omega) (fun _ => al_ite (fun z => al_ite (fun _ => al_oH' (fun g hg => al_some ?_)) (fun _ => al_none)) (fun z2 => al_ite (fun z => al_ite (fun _ => al_oH' (fun g hg => al_some ?_)) (fun _ => al_none)) (fun z3 => al_ite (fun z => al_ite (fun _ => al_oH' (fun g hg => al_some ?_)) (fun _ => al_none)) (fun z4 => al_oH' (fun g hg => al_some ?_))))))
  · rw [if_pos z, if_neg (by omega)]; exact hg
  · rw [if_neg z2, if_pos z, if_neg (by omega)]; exact hg
  · rw [if_neg z2, if_neg z3, if_pos z, if_neg (by omega)]; exact hg
  · rw [if_neg z2, if_neg z3, if_neg z4, if_pos (by omega)]; exact hg
def tF (ca ck : Nat) (g h : dH) : Prop := ∀ a k, ¬ (a = 0 ∧ 14 ≤ k ∧ k ≤ 28) → ¬ (a = 0 ∧ k = 34) → ¬ (8 ≤ a ∧ a ≤ 10) → ¬ (a = 7 ∧ 64 ≤ k) → ¬ (a = ca ∧ k = ck) → g a k = h a k
theorem tells_175_f {v1 v2 v4 v6 : Int32} (h2 : 2 ≤ v4.toInt ∧ v4.toInt ≤ 5) (h6 : v6.toInt ≤ 10) {h0 : dH} {y : Int32} {st : zT2} (G : ∀ (x : Int32) (g : dH), 0 ≤ x.toInt → x.toInt < v6.toInt → tF (cA v4) (cK v4 v2) g h0 → g (cA v4) (cK v4 v2) = x → ∃ Y, SM Y y st g) {k : Int32 → dH → Option (Int32 × dH)} {P : Int32 × dH → Prop} (K : ∀ v g, tF (cA v4) (cK v4 v2) g h0 → Al (k v g) P) : ∀ (n : Nat) (v7 v8 : Int32) (h : dH), 0 ≤ v8.toInt → tF (cA v4) (cK v4 v2) h h0 → Al (l_X7_tells_175 v1 v2 v4 v6 k n v7 v8 h) P
  | 0, _, _, _, _, _ => al_none
  | n + 1, v7, v8, h, p0, q => by
    rw [l_X7_tells_175]
    refine al_ite (fun c => al_oV' (fun g36 h36 => al_oI (fun r37 g38 h38 => ?_))) (fun c => K _ _ q)
    have x1 := lays_f h2 g36 h36
    have q36 : tF (cA v4) (cK v4 v2) g36 h0 := fun a k z1 z2 z3 z4 z5 => by rw [x1, dU_ne z5]; exact q a k z1 z2 z3 z4 z5
    obtain ⟨Y, M⟩ := G v8 g36 p0 c q36 (by rw [x1]; exact dU_eq)
    have b : bFr g38 g36 := unlike_f M v1 v2 (r37, g38) h38
    have t := inc1 (v := v8) (by omega)
    have R : ∀ w, Al (l_X7_tells_175 v1 v2 v4 v6 k n w (v8 + 1) g38) P := fun w => tells_175_f h2 h6 G K n w (v8 + 1) g38 (by omega) (fun a k z1 z2 z3 z4 z5 => (b a k z1 z2 z3 z4).trans (q36 a k z1 z2 z3 z4 z5))
    exact al_ite (fun _ => R _) (fun _ => R _)
end
