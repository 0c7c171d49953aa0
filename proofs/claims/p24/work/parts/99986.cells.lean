/-! cells, copies: on both sides -/
noncomputable section
theorem put_ok {a : Nat} {h : dH} {v1 v2 : Int32} : Al (f_X2_put a v1 v2 h) (fun g => 0 ≤ v1.toInt ∧ v1.toInt < 40 ∧ ∃ x : Int32, ((h a 0).toInt = 0 → x = v2.toInt8.toInt32) ∧ ((h a 0).toInt = 1 → x = v2.toInt16.toInt32) ∧ (¬ (h a 0).toInt = 0 → ¬ (h a 0).toInt = 1 → x = v2) ∧ g = dU h (a + 1) v1.toInt.toNat x) := by
  unfold f_X2_put
  exact al_ite (fun c => al_ite (fun d => al_oH' (fun g hg => al_some ⟨d.1, d.2, _, fun _ => rfl, fun z => by omega, fun z => absurd c z, hg⟩)) (fun _ => al_none)) (fun c => al_ite (fun c1 => al_ite (fun d => al_oH' (fun g hg => al_some ⟨d.1, d.2, _, fun z => absurd z c, fun _ => rfl, fun _ z => absurd c1 z, hg⟩)) (fun _ => al_none)) (fun c1 => al_ite (fun d => al_oH' (fun g hg => al_some ⟨d.1, d.2, _, fun z => absurd z c, fun z => absurd z c1, fun _ _ => rfl, hg⟩)) (fun _ => al_none)))
theorem one_item {hC hM gC gM : dH} (q : RR hC hM) {s i : Nat} {x : Int32} (hs : s < 4) (hi : i < 40) (eC : gC = dU hC (34 + 2 * s + 1) i x) (eM : gM = dU hM 17 (40 * s + i) x) : RR gC gM := by
  have e : ∀ a k, ¬ (a = 34 + 2 * s + 1 ∧ k = i) → gC a k = hC a k := fun a k z => by rw [eC]; exact dU_ne z
  have m : ∀ a k, ¬ (a = 17 ∧ k = 40 * s + i) → gM a k = hM a k := fun a k z => by rw [eM]; exact dU_ne z
  refine q.sheets (fun a k z => e a k (by omega)) (fun a k _ _ _ _ z => m a k (by omega)) (fun s' hs4 => ?_)
  by_cases c : s' = s
  · have S := q.2.2.2.2.1 s hs
    rw [c]
    unfold shR at S ⊢
    rw [e (34 + 2 * s) 0 (by omega), e (34 + 2 * s) 1 (by omega), m 14 s (by omega), m 15 s (by omega), m 16 s (by omega)]
    rcases S with S | ⟨q1, q2, q3, q4, q5, q6, q7, q8⟩
    · exact Or.inl S
    · refine Or.inr ⟨q1, q2, q3, q4, q5, q6, q7, fun j hj => ?_⟩
      by_cases d : j = i
      · rw [d, eC, eM, dU_eq, dU_eq]
      · rw [e _ j (by omega), m 17 _ (by omega)]; exact q8 j hj
  · exact (q.2.2.2.2.1 s' hs4).at (fun k => ⟨e _ k (by omega), e _ k (by omega)⟩) (fun a _ _ => m a s' (by omega)) (fun j hj => m 17 _ (by omega))
theorem miss_iff {hC hM : dH} {s : Nat} (q : shR hC hM s) : (hC (34 + 2 * s) 0).toInt = -1 ↔ (hM 14 s).toInt = 0 := by
  rcases q with q | q
  · exact ⟨fun _ => q.2, fun _ => q.1⟩
  · exact ⟨fun z => by omega, fun z => absurd z q.2.2.1⟩
theorem op_cell {hC hM : dH} (q : RR hC hM) (v1 v2 v3 : Int32) : Op2 (f_X6_cell v1 v2 v3 hC) (f_X7_cell v1 v2 v3 hM) := by
  have l0 := L0
  unfold Op2 f_X6_cell
  have bad : ¬ (0 ≤ v1.toInt ∧ v1.toInt < 4) → Al (f_X7_cell v1 v2 v3 hM) (fun o2 => (-2 : Int32) = o2.1 ∧ RR hC o2.2) := fun z => al_sheet7 (fun r qr => al_ite (fun _ => al_some ⟨rfl, q⟩) (fun z1 => by omega))
  refine al_sheet6 (fun r1 q1 => al_ite (fun z => al_some (bad (by omega))) (fun z1 => al_ite (fun hs => ?_) (fun _ => al_none)))
  have s := q.2.2.2.2.1 v1.toInt.toNat (by omega)
  have mi := miss_iff s
  refine al_miss (fun r5 q5 => al_ite (fun c => ?_) (fun c => ?_))
  · have ne : ¬ (hM 14 v1.toInt.toNat).toInt = 0 := fun z => by have := mi.mpr z; omega
    obtain ⟨s1, s2, s3, s4, s5, s6⟩ := s.here ne
    have el : (hC (34 + 2 * v1.toInt.toNat) 1 - 1).toInt = (hC (34 + 2 * v1.toInt.toNat) 1).toInt - 1 := i_sub rfl ti1 (by omega) (by omega)
    have em : ((hM 16 v1.toInt.toNat - 1).toInt64).toInt = (hC (34 + 2 * v1.toInt.toNat) 1).toInt - 1 := by rw [Int32.toInt_toInt64, ← s3]; exact el
    have t40 : (40 : Int32).toInt = 40 := by decide
    have j0 : (40 * v1 : Int32).toInt = 40 * v1.toInt := i_mul t40 rfl (by omega) (by omega)
    refine al_holds (fun r8 q8 => al_ite (fun z => al_some ?_) (fun z => al_oV' (fun g hg => al_some ?_)))
    · exact al_sheet7 (fun r qr => al_ite (fun z => by omega) (fun _ => al_ite (fun _ => al_ite (fun z => absurd z ne) (fun _ => al_ite (fun _ => al_in (fun r2 qr2 => al_ite (fun _ => al_some ⟨rfl, q⟩) (fun z => by rw [ti1] at q8; omega))) (fun _ => al_none))) (fun _ => al_none)))
    · obtain ⟨x0, x1, x, x2, x3, x4, x5⟩ := put_ok g hg
      have j1 : (40 * v1 + v2).toInt = 40 * v1.toInt + v2.toInt := i_add j0 rfl (by omega) (by omega)
      have j2 : (40 * v1 + v2).toInt.toNat = 40 * v1.toInt.toNat + v2.toInt.toNat := by rw [j1]; omega
      have fin : ∀ (y : Int32), y = x → RR g (dU hM 17 (40 * v1 + v2).toInt.toNat y) := fun y hy => one_item q (s := v1.toInt.toNat) (i := v2.toInt.toNat) (by omega) (by omega) x5 (by rw [j2, hy])
      rw [s2] at x2 x3 x4
      exact al_sheet7 (fun r qr => al_ite (fun z => by omega) (fun _ => al_ite (fun _ => al_ite (fun z => absurd z ne) (fun _ => al_ite (fun _ => al_in (fun r2 qr2 => al_ite (fun z => by rw [ti1] at q8; omega) (fun z => al_ite (fun _ => al_ite (fun a => al_ite (fun _ => al_oH' (fun gm hgm => al_some ⟨rfl, by rw [hgm]; exact fin _ (x2 a).symm⟩)) (fun _ => al_none)) (fun a => al_ite (fun _ => al_ite (fun b => al_ite (fun _ => al_oH' (fun gm hgm => al_some ⟨rfl, by rw [hgm]; exact fin _ (x3 b).symm⟩)) (fun _ => al_none)) (fun b => al_ite (fun _ => al_oH' (fun gm hgm => al_some ⟨rfl, by rw [hgm]; exact fin _ (x4 a b).symm⟩)) (fun _ => al_none))) (fun _ => al_none))) (fun _ => al_none)))) (fun _ => al_none))) (fun _ => al_none)))
  · have ye : (hM 14 v1.toInt.toNat).toInt = 0 := mi.mp (by omega)
    exact al_some (al_sheet7 (fun r qr => al_ite (fun z => by omega) (fun _ => al_ite (fun _ => al_ite (fun _ => al_some ⟨rfl, q⟩) (fun z => absurd ye z)) (fun _ => al_none))))
def cpQ (D n S : Nat) (r r0 : Nat → Int32) : Prop := ∀ k : Nat, r k = if D ≤ k ∧ k < D + n then r0 (S + (k - D)) else r0 k
def cqQ (D n S m : Nat) (r r0 : Nat → Int32) : Prop := ∀ k : Nat, r k = if D + n ≤ k + m ∧ k < D + n then r0 (S + (k - D)) else r0 k
theorem cp_step {D S m n : Nat} {r r0 : Nat → Int32} (ok : D ≤ S ∨ S + n ≤ D) (hm : m < n) (H : cpQ D m S r r0) {r' : Nat → Int32} (h1 : r' (D + m) = r (S + m)) (h2 : ∀ k, ¬ k = D + m → r' k = r k) : cpQ D (m + 1) S r' r0 := by
  intro k
  by_cases e : k = D + m
  · rw [e, h1, H (S + m), if_neg (by omega), if_pos (by omega), show D + m - D = m by omega]
  · rw [h2 k e, H k]
    by_cases f : D ≤ k ∧ k < D + m
    · rw [if_pos f, if_pos (by omega)]
    · rw [if_neg f, if_neg (by omega)]
theorem cq_step {D S m n : Nat} {r r0 : Nat → Int32} (ok : S ≤ D) (hm : m < n) (H : cqQ D n S m r r0) {r' : Nat → Int32} (h1 : r' (D + (n - 1 - m)) = r (S + (n - 1 - m))) (h2 : ∀ k, ¬ k = D + (n - 1 - m) → r' k = r k) : cqQ D n S (m + 1) r' r0 := by
  intro k
  by_cases e : k = D + (n - 1 - m)
  · rw [e, h1, H (S + (n - 1 - m)), if_neg (by omega), if_pos (by omega), show D + (n - 1 - m) - D = n - 1 - m by omega]
  · rw [h2 k e, H k]
    by_cases f : D + n ≤ k + m ∧ k < D + n
    · rw [if_pos f, if_pos (by omega)]
    · rw [if_neg f, if_neg (by omega)]
theorem at40 {v1 v2 w : Int32} {s a k : Nat} (h1 : v1.toInt = s) (h2 : v2.toInt = a) (h3 : w.toInt = k) (hs : s < 4) (ha : a ≤ 40) (hk : k ≤ 40) : (40 * v1 + v2 + w).toInt.toNat = 40 * s + a + k := by
  have t40 : (40 : Int32).toInt = 40 := by decide
  have j0 : (40 * v1 : Int32).toInt = 40 * (s : Int) := i_mul t40 h1 (by omega) (by omega)
  have j1 : (40 * v1 + v2).toInt = 40 * (s : Int) + a := i_add j0 h2 (by omega) (by omega)
  have j2 : (40 * v1 + v2 + w).toInt = 40 * (s : Int) + a + k := i_add j1 h3 (by omega) (by omega)
  rw [j2]; omega
theorem copy_up {v1 v2 v3 v4 v5 v6 : Int32} {s1 a1 s3 a3 N : Nat} (h1 : v1.toInt = s1) (h2 : v2.toInt = a1) (h3 : v3.toInt = s3) (h4 : v4.toInt = a3) (h5 : v5.toInt = N) (l1 : s1 < 4) (l2 : a1 + N ≤ 40) (l3 : s3 < 4) (l4 : a3 + N ≤ 40) (h6 : v6.toInt = 0) {h0 : dH} (ok : 40 * s3 + a3 ≤ 40 * s1 + a1 ∨ 40 * s1 + a1 + N ≤ 40 * s3 + a3) : ∀ (n : Nat) (v7 : Int32) (h : dH) (m : Nat), v7.toInt = m → m ≤ N → (∀ a k, ¬ a = 17 → h a k = h0 a k) → cpQ (40 * s3 + a3) m (40 * s1 + a1) (h 17) (h0 17) → Al (l_X7_copy_121 v1 v2 v3 v4 v5 v6 (fun g => some (v5, g)) n v7 h) (fun o => o.1 = v5 ∧ (∀ a k, ¬ a = 17 → o.2 a k = h0 a k) ∧ cpQ (40 * s3 + a3) N (40 * s1 + a1) (o.2 17) (h0 17))
  | 0, _, _, _, _, _, _, _ => al_none
  | n + 1, v7, h, m, p0, p1, E, H => by
    rw [l_X7_copy_121]
    have e1 := at40 h1 h2 p0 l1 (by omega) (by omega)
    have e3 := at40 h3 h4 p0 l3 (by omega) (by omega)
    refine al_ite (fun c => al_ite (fun d => al_ite (fun _ => al_ite (fun _ => al_oH' (fun g hg => ?_)) (fun _ => al_none)) (fun _ => al_none)) (fun d => absurd h6 d)) (fun c => al_some ⟨rfl, E, ?_⟩)
    · rw [e1, e3] at hg
      have t := inc1 (v := v7) (by omega)
      refine copy_up h1 h2 h3 h4 h5 l1 l2 l3 l4 h6 ok n (v7 + 1) g (m + 1) (by omega) (by omega) (fun a k x => by rw [hg, dU_ne (fun z => x z.1)]; exact E a k x) (cp_step ok (by omega) H ?_ (fun k x => ?_))
      · rw [hg]; exact dU_eq
      · rw [hg]; exact dU_ne (fun z => x z.2)
    · have : m = N := by omega
      rw [← this]; exact H
theorem copy_dn {v1 v2 v3 v4 v5 v6 : Int32} {s1 a1 s3 a3 N : Nat} (h1 : v1.toInt = s1) (h2 : v2.toInt = a1) (h3 : v3.toInt = s3) (h4 : v4.toInt = a3) (h5 : v5.toInt = N) (l1 : s1 < 4) (l2 : a1 + N ≤ 40) (l3 : s3 < 4) (l4 : a3 + N ≤ 40) (h6 : v6.toInt = 1) {h0 : dH} (ok : 40 * s1 + a1 ≤ 40 * s3 + a3) : ∀ (n : Nat) (v7 : Int32) (h : dH) (m : Nat), v7.toInt = m → m ≤ N → (∀ a k, ¬ a = 17 → h a k = h0 a k) → cqQ (40 * s3 + a3) N (40 * s1 + a1) m (h 17) (h0 17) → Al (l_X7_copy_121 v1 v2 v3 v4 v5 v6 (fun g => some (v5, g)) n v7 h) (fun o => o.1 = v5 ∧ (∀ a k, ¬ a = 17 → o.2 a k = h0 a k) ∧ cpQ (40 * s3 + a3) N (40 * s1 + a1) (o.2 17) (h0 17))
  | 0, _, _, _, _, _, _, _ => al_none
  | n + 1, v7, h, m, p0, p1, E, H => by
    rw [l_X7_copy_121]
    refine al_ite (fun c => al_ite (fun d => by omega) (fun d => al_ite (fun _ => al_ite (fun _ => al_oH' (fun g hg => ?_)) (fun _ => al_none)) (fun _ => al_none))) (fun c => al_some ⟨rfl, E, ?_⟩)
    · have m1 : (v5 - 1).toInt = (N : Int) - 1 := i_sub h5 ti1 (by omega) (by omega)
      have m2 : (v5 - 1 - v7).toInt = (N : Int) - 1 - m := i_sub m1 p0 (by omega) (by omega)
      have m3 : (v5 - 1 - v7).toInt = ((N - 1 - m : Nat) : Int) := by rw [m2]; omega
      have e1 := at40 h1 h2 m3 l1 (by omega) (by omega)
      have e3 := at40 h3 h4 m3 l3 (by omega) (by omega)
      rw [e1, e3] at hg
      have t := inc1 (v := v7) (by omega)
      refine copy_dn h1 h2 h3 h4 h5 l1 l2 l3 l4 h6 ok n (v7 + 1) g (m + 1) (by omega) (by omega) (fun a k x => by rw [hg, dU_ne (fun z => x z.1)]; exact E a k x) (cq_step ok (by omega) H ?_ (fun k x => ?_))
      · rw [hg]; exact dU_eq
      · rw [hg]; exact dU_ne (fun z => x z.2)
    · have : m = N := by omega
      intro k
      show h 17 k = _
      rw [H k, this]
      by_cases f : 40 * s3 + a3 ≤ k ∧ k < 40 * s3 + a3 + N
      · rw [if_pos f, if_pos (by omega)]
      · rw [if_neg f, if_neg (by omega)]
end
