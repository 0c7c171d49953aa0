/-! sheets: on both sides -/
noncomputable section
theorem shR.at {gC gM hC hM : dH} {s : Nat} (q : shR hC hM s) (e : ∀ k, gC (34 + 2 * s) k = hC (34 + 2 * s) k ∧ gC (34 + 2 * s + 1) k = hC (34 + 2 * s + 1) k) (m : ∀ a, 14 ≤ a → a ≤ 16 → gM a s = hM a s) (m7 : ∀ i, i < 40 → gM 17 (40 * s + i) = hM 17 (40 * s + i)) : shR gC gM s := by
  unfold shR at q ⊢
  rw [(e 0).1, (e 1).1, m 14 (by omega) (by omega), m 15 (by omega) (by omega), m 16 (by omega) (by omega)]
  rcases q with q | ⟨q1, q2, q3, q4, q5, q6, q7, q8⟩
  · exact Or.inl q
  · exact Or.inr ⟨q1, q2, q3, q4, q5, q6, q7, fun i hi => by rw [(e i).2, m7 i (by omega)]; exact q8 i hi⟩
theorem RR.sheets {hC hM gC gM : dH} (q : RR hC hM) (e : ∀ a k, (a = 0 ∧ (k = 3 ∨ k = 7)) ∨ (a = 1 ∧ k = 0) ∨ a = 5 ∨ (11 ≤ a ∧ a ≤ 32 ∧ (a % 4 = 3 ∨ a % 4 = 0)) ∨ (43 ≤ a ∧ a ≤ 55) ∨ (71 ≤ a ∧ a ≤ 83) → gC a k = hC a k) (m : ∀ a k, ¬ (a = 0 ∧ 14 ≤ k ∧ k ≤ 28) → ¬ (a = 0 ∧ k = 34) → ¬ (8 ≤ a ∧ a ≤ 10) → ¬ (a = 7 ∧ 64 ≤ k) → ¬ (14 ≤ a ∧ a ≤ 17) → gM a k = hM a k) (s : ∀ s, s < 4 → shR gC gM s) : RR gC gM := by
  obtain ⟨q1, q2, q3, q4, q5, q6⟩ := q
  refine ⟨?_, ?_, q3.same (fun a k x => e a k (by omega)) (fun a k x => m a k (by omega) (by omega) (by omega) (by omega) (by omega)), q4.same (fun a k x => e a k (by omega)) (fun a k x => m a k (by omega) (by omega) (by omega) (by omega) (by omega)), s, ?_⟩
  · unfold nowR at q1 ⊢
    rw [e 0 3 (by omega)]
    exact q1.same (fun b k hb => e b k (by omega)) (m 0 7 (by omega) (by omega) (by omega) (by omega) (by omega)) (m 0 8 (by omega) (by omega) (by omega) (by omega) (by omega)) (m 0 13 (by omega) (by omega) (by omega) (by omega) (by omega)) (m 0 4 (by omega) (by omega) (by omega) (by omega) (by omega)) (fun i hi => ⟨m 4 i (by omega) (by omega) (by omega) (by omega) (by omega), m 5 i (by omega) (by omega) (by omega) (by omega) (by omega), m 6 i (by omega) (by omega) (by omega) (by omega) (by omega)⟩) (fun i hi => m 7 i (by omega) (by omega) (by omega) (by omega) (by omega)) (Int.le_refl _)
  · exact q2.same (fun a k x => e a k (by omega)) (fun a k x => m a k (by omega) (by omega) (by omega) (by omega) (by omega)) (by rw [e 43 2 (by omega)]; exact Int.le_refl _) (by rw [e 0 3 (by omega)]; exact Int.le_refl _)
  · unfold mNo at q6 ⊢
    rw [m 0 29 (by omega) (by omega) (by omega) (by omega) (by omega), m 0 30 (by omega) (by omega) (by omega) (by omega) (by omega), m 0 31 (by omega) (by omega) (by omega) (by omega) (by omega)]
    exact q6
theorem lay_12 {a : Nat} {h0 : dH} : ∀ (n : Nat) (v3 : Int32) (h : dH), 0 ≤ v3.toInt → v3.toInt ≤ 40 → (∀ j, j < v3.toInt.toNat → h (a + 1) j = 0) → (∀ b k, ¬ b = a + 1 → h b k = h0 b k) → Al (l_X2_lay_12 a (fun g => some g) n v3 h) (fun g => (∀ j, j < 40 → g (a + 1) j = 0) ∧ ∀ b k, ¬ b = a + 1 → g b k = h0 b k)
  | 0, _, _, _, _, _, _ => al_none
  | n + 1, v3, h, p0, p1, h1, h2 => by
    rw [l_X2_lay_12]
    have t := inc1 (v := v3) (by omega)
    refine al_ite (fun c => al_ite (fun _ => al_oH' (fun g hg => ?_)) (fun _ => al_none)) (fun c => al_some ⟨fun j hj => h1 j (by omega), h2⟩)
    refine lay_12 n (v3 + 1) g (by omega) (by omega) (fun j hj => ?_) (fun b k x => by rw [hg, dU_ne (by omega)]; exact h2 b k x)
    by_cases e : j = v3.toInt.toNat
    · rw [e, hg]; exact dU_eq
    · rw [hg, dU_ne (by omega)]; exact h1 j (by omega)
theorem lay_ok (a : Nat) (v1 v2 : Int32) (h : dH) : Al (f_X2_lay a v1 v2 h) (fun g => g a 0 = v1 ∧ g a 1 = v2 ∧ (∀ j, j < 40 → g (a + 1) j = 0) ∧ ∀ b k, ¬ b = a → ¬ b = a + 1 → g b k = h b k) := by
  unfold f_X2_lay
  refine al_oH' (fun g1 q1 => al_oH' (fun g2 q2 => fun g hg => ?_))
  obtain ⟨x1, x2⟩ := lay_12 (h0 := g2) fuel0 0 g2 (by decide) (by decide) (fun j hj => by rw [ti0] at hj; omega) (fun _ _ _ => rfl) g hg
  refine ⟨?_, ?_, x1, fun b k x y => ?_⟩
  · rw [x2 a 0 (by omega), q2, dU_ne (by omega), q1]; exact dU_eq
  · rw [x2 a 1 (by omega), q2]; exact dU_eq
  · rw [x2 b k y, q2, dU_ne (by omega), q1, dU_ne (by omega)]
theorem sheet_77 {h0 : dH} {v1 v2 v3 : Int32} (hs : 0 ≤ v1.toInt ∧ v1.toInt < 4) (hv : ¬ v2.toInt < 0 → v3.toInt ≤ 40) : ∀ (n : Nat) (v4 : Int32) (h : dH), 0 ≤ v4.toInt → (v4.toInt = 0 ∨ (¬ v2.toInt < 0 ∧ v4.toInt ≤ 40)) → (∀ j, j < v4.toInt.toNat → h 17 (40 * v1.toInt.toNat + j) = 0) → (∀ a k, ¬ (a = 17 ∧ 40 * v1.toInt.toNat ≤ k ∧ k < 40 * v1.toInt.toNat + 40) → h a k = h0 a k) → Al (l_X7_sheet_77 v1 v2 v3 (fun g => some (1, g)) n v4 h) (fun o => o.1 = 1 ∧ (¬ v2.toInt < 0 → ∀ j, j < v3.toInt.toNat → o.2 17 (40 * v1.toInt.toNat + j) = 0) ∧ ∀ a k, ¬ (a = 17 ∧ 40 * v1.toInt.toNat ≤ k ∧ k < 40 * v1.toInt.toNat + 40) → o.2 a k = h0 a k)
  | 0, _, _, _, _, _, _ => al_none
  | n + 1, v4, h, p0, p1, h1, h2 => by
    rw [l_X7_sheet_77]
    refine al_ite (fun c => al_ite (fun d => al_some ⟨rfl, fun z => absurd d z, h2⟩) (fun d => ?_)) (fun c => al_some ⟨rfl, fun _ j hj => h1 j (by omega), h2⟩)
    have hv' := hv d
    have t := inc1 (v := v4) (by omega)
    have t40 : (40 : Int32).toInt = 40 := by decide
    have j0 : (40 * v1 : Int32).toInt = 40 * v1.toInt := i_mul t40 rfl (by omega) (by omega)
    have j1 : (40 * v1 + v4).toInt = 40 * v1.toInt + v4.toInt := i_add j0 rfl (by omega) (by omega)
    refine al_ite (fun _ => al_oH' (fun g hg => ?_)) (fun _ => al_none)
    rw [j1, show (40 * v1.toInt + v4.toInt).toNat = 40 * v1.toInt.toNat + v4.toInt.toNat by omega] at hg
    refine sheet_77 hs hv n (v4 + 1) g (by omega) (Or.inr ⟨d, by omega⟩) (fun j hj => ?_) (fun a k x => by rw [hg, dU_ne (by omega)]; exact h2 a k x)
    by_cases e : j = v4.toInt.toNat
    · rw [e, hg]; exact dU_eq
    · rw [hg, dU_ne (by omega)]; exact h1 j (by omega)
def mlQ (v1 v2 v3 b : Int32) (h : dH) (o : Int32 × dH) : Prop := o.1 = 1 ∧ o.2 14 v1.toInt.toNat = b ∧ o.2 15 v1.toInt.toNat = v2 ∧ o.2 16 v1.toInt.toNat = v3 ∧ (¬ v2.toInt < 0 → ∀ j, j < v3.toInt.toNat → o.2 17 (40 * v1.toInt.toNat + j) = 0) ∧ ∀ a k, ¬ (a = 17 ∧ 40 * v1.toInt.toNat ≤ k ∧ k < 40 * v1.toInt.toNat + 40) → ¬ (14 ≤ a ∧ a ≤ 16 ∧ k = v1.toInt.toNat) → o.2 a k = h a k
theorem mlay_ok {v1 v2 v3 b : Int32} {h : dH} (hs : 0 ≤ v1.toInt ∧ v1.toInt < 4) (hv : ¬ v2.toInt < 0 → v3.toInt ≤ 40) : Al (if 0 ≤ v1.toInt ∧ v1.toInt < 4 then (oH (dU h 14 (v1.toInt.toNat) b) (fun g13 => if 0 ≤ v1.toInt ∧ v1.toInt < 4 then (oH (dU g13 15 (v1.toInt.toNat) v2) (fun g15 => if 0 ≤ v1.toInt ∧ v1.toInt < 4 then (oH (dU g15 16 (v1.toInt.toNat) v3) (fun g17 => l_X7_sheet_77 v1 v2 v3 (fun g26 => some (1, g26)) fuel0 0 g17)) else none)) else none)) else none) (mlQ v1 v2 v3 b h) := by
  refine al_ite (fun _ => al_oH' (fun g1 q1 => al_ite (fun _ => al_oH' (fun g2 q2 => al_ite (fun _ => al_oH' (fun g3 q3 => fun o ho => ?_)) (fun _ => al_none))) (fun _ => al_none))) (fun _ => al_none)
  obtain ⟨x1, x2, x3⟩ := sheet_77 (h0 := g3) hs hv fuel0 0 g3 (by decide) (Or.inl (by decide)) (fun j hj => by rw [ti0] at hj; omega) (fun _ _ _ => rfl) o ho
  refine ⟨x1, ?_, ?_, ?_, x2, fun a k x y => ?_⟩
  · rw [x3 14 _ (by omega), q3, dU_ne (by omega), q2, dU_ne (by omega), q1]; exact dU_eq
  · rw [x3 15 _ (by omega), q3, dU_ne (by omega), q2]; exact dU_eq
  · rw [x3 16 _ (by omega), q3]; exact dU_eq
  · rw [x3 a k x, q3, dU_ne (by omega), q2, dU_ne (by omega), q1, dU_ne (by omega)]
theorem msheet_ok {v1 v2 v3 : Int32} {h : dH} {P : Int32 × dH → Prop} (b2 : (¬ (0 ≤ v1.toInt ∧ v1.toInt < 4) ∨ ¬ (-1 ≤ v2.toInt ∧ v2.toInt ≤ 2) ∨ (0 ≤ v2.toInt ∧ 40 < v3.toInt)) → P (-2, h)) (b14 : 0 ≤ v1.toInt ∧ v1.toInt < 4 → 0 ≤ v2.toInt ∧ v2.toInt ≤ 2 → v3.toInt < 0 → P (-14, h)) (no : 0 ≤ v1.toInt ∧ v1.toInt < 4 → v2.toInt = -1 → ∀ o, mlQ v1 v2 v3 0 h o → P o) (yes : 0 ≤ v1.toInt ∧ v1.toInt < 4 → 0 ≤ v2.toInt ∧ v2.toInt ≤ 2 → 0 ≤ v3.toInt ∧ v3.toInt ≤ 40 → ∀ o, mlQ v1 v2 v3 1 h o → P o) : Al (f_X7_sheet v1 v2 v3 h) P := by
  have lm := Lm1
  have l2 := L2
  have n0 : vp_nar .boolean 0 = 0 := by decide
  have n1 : vp_nar .boolean 1 = 1 := by decide
  unfold f_X7_sheet
  rw [n0, n1]
  exact al_sheet7 (fun r qr => al_ite (fun z => al_some (b2 (by omega))) (fun z1 => al_in (fun r2 qr2 => al_ite (fun z => al_some (b2 (by omega))) (fun z2 => al_ite (fun c => al_ite (fun _ => al_ite (fun _ o ho => no (by omega) (by omega) o (mlay_ok (by omega) (fun z => absurd c z) o ho)) (fun z => absurd c z)) (fun z => absurd c z)) (fun c => al_ite (fun d => al_some (b2 (by omega))) (fun d => al_ite (fun z => absurd z c) (fun _ => al_ite (fun e => al_some (b14 (by omega) (by omega) e)) (fun e => al_ite (fun z => absurd z c) (fun _ o ho => yes (by omega) (by omega) (by omega) o (mlay_ok (by omega) (fun _ => by omega) o ho))))))))))
theorem lays_no {hC hM g : dH} (q : RR hC hM) {v1 v2 v3 : Int32} (hs : 0 ≤ v1.toInt ∧ v1.toInt < 4) (L : g (34 + 2 * v1.toInt.toNat) 0 = -1 ∧ ∀ b k, ¬ b = 34 + 2 * v1.toInt.toNat → ¬ b = 34 + 2 * v1.toInt.toNat + 1 → g b k = hC b k) (o : Int32 × dH) (ho : mlQ v1 v2 v3 0 hM o) : RR g o.2 := by
  obtain ⟨x1, x2, x3, x4, x5, x6⟩ := ho
  obtain ⟨y1, y4⟩ := L
  refine q.sheets (fun a k x => y4 a k (by omega) (by omega)) (fun a k _ _ _ _ x => x6 a k (by omega) (by omega)) (fun s hs4 => ?_)
  by_cases e : s = v1.toInt.toNat
  · rw [e]
    refine Or.inl ⟨by rw [y1]; decide, by rw [x2]; decide⟩
  · exact (q.2.2.2.2.1 s hs4).at (fun k => ⟨y4 _ k (by omega) (by omega), y4 _ k (by omega) (by omega)⟩) (fun a _ _ => x6 a s (by omega) (by omega)) (fun i hi => x6 17 _ (by omega) (by omega))
theorem lays_yes {hC hM g : dH} (q : RR hC hM) {v1 v2 v3 : Int32} (hs : 0 ≤ v1.toInt ∧ v1.toInt < 4) (h2 : 0 ≤ v2.toInt ∧ v2.toInt ≤ 2) (h3 : 0 ≤ v3.toInt ∧ v3.toInt ≤ 40) (L : g (34 + 2 * v1.toInt.toNat) 0 = v2 ∧ g (34 + 2 * v1.toInt.toNat) 1 = v3 ∧ (∀ j, j < 40 → g (34 + 2 * v1.toInt.toNat + 1) j = 0) ∧ ∀ b k, ¬ b = 34 + 2 * v1.toInt.toNat → ¬ b = 34 + 2 * v1.toInt.toNat + 1 → g b k = hC b k) (o : Int32 × dH) (ho : mlQ v1 v2 v3 1 hM o) : RR g o.2 := by
  obtain ⟨x1, x2, x3, x4, x5, x6⟩ := ho
  obtain ⟨y1, y2, y3, y4⟩ := L
  refine q.sheets (fun a k x => y4 a k (by omega) (by omega)) (fun a k _ _ _ _ x => x6 a k (by omega) (by omega)) (fun s hs4 => ?_)
  by_cases e : s = v1.toInt.toNat
  · rw [e]
    refine Or.inr ⟨by rw [y1]; omega, by rw [y1]; omega, by rw [x2]; decide, by rw [y1, x3], by rw [y2, x4], by rw [y2]; omega, by rw [y2]; omega, fun i hi => ?_⟩
    rw [y2] at hi
    rw [y3 i (by omega), x5 (by omega) i hi]
  · exact (q.2.2.2.2.1 s hs4).at (fun k => ⟨y4 _ k (by omega) (by omega), y4 _ k (by omega) (by omega)⟩) (fun a _ _ => x6 a s (by omega) (by omega)) (fun i hi => x6 17 _ (by omega) (by omega))
theorem op_sheet {hC hM : dH} (q : RR hC hM) (v1 v2 v3 : Int32) : Op2 (f_X6_sheet v1 v2 v3 hC) (f_X7_sheet v1 v2 v3 hM) := by
  unfold Op2 f_X6_sheet
  have bad : (¬ (0 ≤ v1.toInt ∧ v1.toInt < 4) ∨ ¬ (-1 ≤ v2.toInt ∧ v2.toInt ≤ 2) ∨ (0 ≤ v2.toInt ∧ 40 < v3.toInt)) → Al (f_X7_sheet v1 v2 v3 hM) (fun o2 => (-2 : Int32) = o2.1 ∧ RR hC o2.2) := fun z => msheet_ok (fun _ => ⟨rfl, q⟩) (fun a b c => by exfalso; omega) (fun a b => by exfalso; omega) (fun a b c => by exfalso; omega)
  refine al_sheet6 (fun r1 q1 => al_ite (fun z => al_some (bad (by omega))) (fun z1 => al_ite (fun c => al_ite (fun _ => al_ite (fun hs => al_oV' (fun g hg => al_some ?_)) (fun _ => al_none)) (fun z => absurd c z)) (fun c => al_sort6 (fun r4 q4 => al_ite (fun z => al_some (bad (by omega))) (fun z2 => al_ite (fun z => absurd z c) (fun _ => al_ite (fun d => al_some (bad (by omega))) (fun d => al_ite (fun e => al_some ?_) (fun e => al_ite (fun hs => al_oV' (fun g hg => al_some ?_)) (fun _ => al_none)))))))))
  · obtain ⟨y1, y2, y3, y4⟩ := lay_ok _ _ _ _ g hg
    refine msheet_ok (fun z => by exfalso; omega) (fun a b c => by exfalso; omega) (fun a b o ho => ⟨ho.1.symm, lays_no q hs ⟨y1, y4⟩ o ho⟩) (fun a b c => by exfalso; omega)
  · exact msheet_ok (fun z => by exfalso; omega) (fun a b c => ⟨rfl, q⟩) (fun a b => by exfalso; omega) (fun a b c => by exfalso; omega)
  · exact msheet_ok (fun z => by exfalso; omega) (fun a b c => by exfalso; omega) (fun a b => by exfalso; omega) (fun a b c o ho => ⟨ho.1.symm, lays_yes q hs b c (lay_ok _ _ _ _ g hg) o ho⟩)
end
