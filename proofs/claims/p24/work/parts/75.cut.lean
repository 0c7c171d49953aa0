/-! the class's tokens, all of them -/
noncomputable section
theorem al_oV' {α : Type} {P : α → Prop} {t : Option dH} {f : dH → Option α} (h : ∀ g, t = some g → Al (f g) P) : Al (oV t f) P := by
  intro o ho
  cases t with
  | none => cases ho
  | some r => exact h r rfl o ho
/-- token j stands in the rows -/
def TokR (B : Nat → Int) (N : Nat) (P : Nat → Nat) (g : dH) (j : Nat) : Prop := ∃ (c : Int) (s : Nat) (w : Int), ¬ c = 300 ∧ Tok B N (P j) c s (P (j + 1)) w ∧ (g 2 j).toInt = c ∧ (g 3 j).toInt = s ∧ (c = 302 ∨ c = 303 → (g 4 j).toInt = w)
/-- all tokens stand there -/
def Toks (B : Nat → Int) (N : Nat) (P : Nat → Nat) (n : Nat) (g : dH) : Prop := P 0 = 0 ∧ n ≤ 160 ∧ (∀ j, j < n → TokR B N P g j) ∧ Tok B N (P n) 300 N N 0 ∧ (g 2 n).toInt = 300 ∧ (g 3 n).toInt = N
def cutF (g h : dH) : Prop := ∀ a k, ¬ (a = 1 ∧ k = 5) → ¬ a = 2 → ¬ a = 3 → ¬ a = 4 → g a k = h a k
theorem Tok.lt {B : Nat → Int} {N p : Nat} {c : Int} {s e : Nat} {w : Int} (h : Tok B N p c s e w) (hc : ¬ c = 300) : p < e ∧ e ≤ N ∧ s < N ∧ p ≤ s := by
  obtain ⟨h1, h2⟩ := h
  have a1 := h1.1
  rcases h2 with h2 | h2 | h2 | h2
  · exact absurd h2.2.1 hc
  · obtain ⟨q1, q2, q3, -⟩ := h2
    have b1 := q3.1
    have b2 := q3.2.1
    have : ¬ e = s := fun z => q3.2.2.2 (by omega) (by rw [z]; exact q2)
    omega
  · obtain ⟨q1, q2, q3, -⟩ := h2
    have b1 := q3.1
    have b2 := q3.2.1
    have : ¬ e = s := fun z => q3.2.2.2 (by omega) (by rw [z]; exact q2)
    omega
  · omega
theorem TokR.le {B : Nat → Int} {N : Nat} {P : Nat → Nat} {g : dH} (h0 : P 0 = 0) : ∀ n, (∀ j, j < n → TokR B N P g j) → n ≤ P n
  | 0, _ => Nat.zero_le _
  | n + 1, h => by
    have ih := TokR.le h0 n (fun j hj => h j (by omega))
    obtain ⟨c, s, w, hc, ht, -⟩ := h n (by omega)
    have := ht.lt hc
    omega
theorem TokR.ext {B : Nat → Int} {N : Nat} {P : Nat → Nat} {g f : dH} {i e : Nat} (hp : ∀ j, j < i → TokR B N P g j) (hf : ∀ j, j < i → f 2 j = g 2 j ∧ f 3 j = g 3 j ∧ f 4 j = g 4 j) {c : Int} {s : Nat} {w : Int} (hc : ¬ c = 300) (ht : Tok B N (P i) c s e w) (e2 : (f 2 i).toInt = c) (e3 : (f 3 i).toInt = s) (e4 : c = 302 ∨ c = 303 → (f 4 i).toInt = w) : ∀ j, j < i + 1 → TokR B N (fun k => if k = i + 1 then e else P k) f j := by
  intro j hj
  by_cases hji : j = i
  · subst hji
    refine ⟨c, s, w, hc, ?_, e2, e3, e4⟩
    simp only [if_neg (show ¬ j = j + 1 by omega), if_true]
    exact ht
  · obtain ⟨c', s', w', q1, q2, q3, q4, q5⟩ := hp j (by omega)
    obtain ⟨f2, f3, f4⟩ := hf j (by omega)
    refine ⟨c', s', w', q1, ?_, by rw [f2]; exact q3, by rw [f3]; exact q4, fun z => by rw [f4]; exact q5 z⟩
    simp only [if_neg (show ¬ j = i + 1 by omega), if_neg (show ¬ j + 1 = i + 1 by omega)]
    exact q2
theorem cut_7 {h0 : dH} (hb : ∀ j, j < cN h0 → 0 ≤ cB h0 j ∧ cB h0 j ≤ 255) : ∀ (n : Nat) (v : Int32) (h : dH), 0 ≤ v.toInt → v.toInt ≤ 161 → cOk h → cutF h h0 → (∃ P : Nat → Nat, P 0 = 0 ∧ P v.toInt.toNat = (h 1 5).toInt.toNat ∧ ∀ j, j < v.toInt.toNat → TokR (cB h0) (cN h0) P h j) → Al (l_X4_cut_7 (fun g => some g) n v h) (fun g => cutF g h0 ∧ ∃ P n, Toks (cB h0) (cN h0) P n g)
  | 0, _, _, _, _, _, _, _ => al_none
  | n + 1, v, h, v0, v1, ho, hF, ⟨P, p0, pv, pj⟩ => by
    rw [l_X4_cut_7]
    have hBh : cB h = cB h0 := by funext j; unfold cB; rw [hF 5 j (by omega) (by omega) (by omega) (by omega)]
    have hNh : cN h = cN h0 := by unfold cN; rw [hF 1 0 (by omega) (by omega) (by omega) (by omega)]
    have hle := TokR.le p0 _ pj
    obtain ⟨o1, o2, o3⟩ := id ho
    refine al_ite (fun c => ?_) (fun c => cut_14 _ h ho (fun g11 m og run => al_ite (fun _ => al_oH' (fun g12 hg12 => ?_)) (fun _ => al_none)))
    · exfalso; omega
    rw [hBh, hNh, ← pv] at run
    have k12 : ∀ a k, ¬ (a = 3 ∧ k = v.toInt.toNat) → g12 a k = g11 a k := fun a k q => by rw [hg12]; exact dU_ne q
    have e3 : g12 3 v.toInt.toNat = g12 1 5 := by rw [k12 1 5 (by omega), hg12, dU_eq]
    have og12 : cOk g12 := by unfold cOk; rw [k12 1 0 (by omega), k12 1 5 (by omega)]; exact og
    have hB12 : cB g12 = cB h0 := by rw [← hBh, ← m.bytes]; funext j; unfold cB; rw [k12 5 j (by omega)]
    have hN12 : cN g12 = cN h0 := by rw [← hNh, ← m.n]; unfold cN; rw [k12 1 0 (by omega)]
    have hF12 : cutF g12 h0 := fun a k q1 q2 q3 q4 => by rw [k12 a k (by omega), m a k q1]; exact hF a k q1 q2 q3 q4
    have hrow : ∀ j, j < v.toInt.toNat → g12 2 j = h 2 j ∧ g12 3 j = h 3 j ∧ g12 4 j = h 4 j := fun j hj => ⟨by rw [k12 2 j (by omega), m 2 j (by omega)], by rw [k12 3 j (by omega), m 3 j (by omega)], by rw [k12 4 j (by omega), m 4 j (by omega)]⟩
    have e5 : (g11 1 5).toInt = (g12 1 5).toInt := by rw [k12 1 5 (by omega)]
    rw [e5] at run
    obtain ⟨w1, w2, w3⟩ := id og12
    have tv : (v + 1).toInt = v.toInt + 1 := i_add rfl (by decide) (by omega) (by omega)
    have tvn : (v + 1).toInt.toNat = v.toInt.toNat + 1 := by omega
    have e3s : (g12 3 v.toInt.toNat).toInt = ((g12 1 5).toInt.toNat : Int) := by rw [e3]; omega
    -- a token behind which the cutting goes on
    have on : ∀ f, cutQ (cB h0) (cN h0) (P v.toInt.toNat) (g12 1 5).toInt.toNat v.toInt.toNat g12 f → Al (l_X4_cut_7 (fun g => some g) n (v + 1) f) (fun g => cutF g h0 ∧ ∃ P n, Toks (cB h0) (cN h0) P n g) := by
      intro f hf
      obtain ⟨of, kf, cc, ww, hc, ht, f2, f4⟩ := hf
      refine cut_7 hb n (v + 1) f (by omega) (by omega) of (fun a k q1 q2 q3 q4 => by rw [kf a k q1 (by omega) (by omega)]; exact hF12 a k q1 q2 q3 q4) ⟨fun k => if k = v.toInt.toNat + 1 then (f 1 5).toInt.toNat else P k, ?_, ?_, ?_⟩
      · exact (if_neg (by omega)).trans p0
      · rw [tvn]; exact if_pos rfl
      · rw [tvn]
        refine TokR.ext pj (fun j hj => ?_) hc ht f2 ?_ f4
        · obtain ⟨r2, r3, r4⟩ := hrow j hj
          exact ⟨by rw [kf 2 j (by omega) (by omega) (by omega), r2], by rw [kf 3 j (by omega) (by omega) (by omega), r3], by rw [kf 4 j (by omega) (by omega) (by omega), r4]⟩
        · rw [kf 3 _ (by omega) (by omega) (by omega)]
          exact e3s
    refine al_ite (fun c1 => al_ite (fun _ => al_oP (fun r hr => ?_)) (fun _ => al_none)) (fun c1 => al_ite (fun _ => al_oH' (fun g30 hg30 => al_some ?_)) (fun _ => al_none))
    · have hN : (g12 1 5).toInt.toNat < cN h0 := by rw [← hN12]; unfold cN; omega
      have qd := isDg_ok r hr
      have cb : (g12 5 (g12 1 5).toInt.toNat).toInt = cB h0 (g12 1 5).toInt.toNat := by rw [← hB12]; rfl
      rw [cb] at qd
      refine al_ite (fun c2 => al_ite (fun _ => al_oP (fun r2 hr2 => ?_)) (fun _ => al_none)) (fun c2 => al_oV' (fun f hf => on f ?_))
      · have nd : ¬ isDg (cB h0 (g12 1 5).toInt.toNat) := qd.elim (fun z => by omega) (fun z => z.2)
        have qs := isSm_ok r2 hr2
        rw [cb] at qs
        refine al_ite (fun c3 => al_ite (fun _ => al_ite (fun _ => al_oH' (fun g25 hg25 => al_oH' (fun g27 hg27 => on g27 ?_))) (fun _ => al_none)) (fun _ => al_none)) (fun c3 => al_oV' (fun f hf => on f ?_))
        · have ns : ¬ isSm (cB h0 (g12 1 5).toInt.toNat) := qs.elim (fun z => by omega) (fun z => z.2)
          have p15 : g25 1 5 = g12 1 5 := by rw [hg25]; exact dU_ne (by omega)
          have p10 : g25 1 0 = g12 1 0 := by rw [hg25]; exact dU_ne (by omega)
          have o25 : cOk g25 := by unfold cOk; rw [p10, p15]; exact og12
          obtain ⟨m27, e27, o27⟩ := at1 hg27 o25 (by rw [p10, p15]; exact c1)
          rw [p15] at e27
          have hbb := hb _ hN
          refine ⟨o27, fun a k q1 q2 q3 => by rw [m27 a k q1, hg25]; exact dU_ne q2, cB h0 (g12 1 5).toInt.toNat, 0, by omega, ⟨run, Or.inr (Or.inr (Or.inr ⟨hN, nd, ns, run.2.2.2 hN, rfl, by omega⟩))⟩, ?_, fun z => by omega⟩
          rw [m27 2 _ (by omega), hg25, dU_eq, cb]
        · have hsm : isSm (cB h0 (g12 1 5).toInt.toNat) := qs.elim (fun z => z.2) (fun z => absurd z.1 c3)
          have := cutWord_ok (p := P v.toInt.toNat) og12 rfl e3 (by rw [hB12, hN12]; exact run) (by rw [hN12]; exact hN) (by rw [hB12]; exact hsm) f hf
          rw [hB12, hN12] at this
          exact this
      · have hd : isDg (cB h0 (g12 1 5).toInt.toNat) := qd.elim (fun z => z.2) (fun z => absurd z.1 c2)
        have := cutNumber_ok (p := P v.toInt.toNat) og12 rfl e3 (by rw [hB12, hN12]; exact run) (by rw [hN12]; exact hN) (by rw [hB12]; exact hd) f hf
        rw [hB12, hN12] at this
        exact this
    · have hN : (g12 1 5).toInt.toNat = cN h0 := by rw [← hN12]; unfold cN; omega
      rw [hN] at run e3s
      refine ⟨fun a k q1 q2 q3 q4 => by rw [hg30, dU_ne (by omega)]; exact hF12 a k q1 q2 q3 q4, P, v.toInt.toNat, p0, by omega, fun j hj => ?_, ⟨run, Or.inl ⟨rfl, rfl, rfl⟩⟩, by rw [hg30, dU_eq]; decide, by rw [hg30, dU_ne (by omega)]; exact e3s⟩
      obtain ⟨c', s', w', q1, q2, q3, q4, q5⟩ := pj j hj
      obtain ⟨r2, r3, r4⟩ := hrow j hj
      exact ⟨c', s', w', q1, q2, by rw [hg30, dU_ne (by omega), r2]; exact q3, by rw [hg30, dU_ne (by omega), r3]; exact q4, fun z => by rw [hg30, dU_ne (by omega), r4]; exact q5 z⟩
theorem cut_ok {h : dH} (h0 : 0 ≤ (h 1 0).toInt) (h1 : (h 1 0).toInt ≤ 160) (hb : ∀ j, j < cN h → 0 ≤ cB h j ∧ cB h j ≤ 255) : Al (f_X4_cut h) (fun g => cutF g h ∧ ∃ P n, Toks (cB h) (cN h) P n g) := by
  unfold f_X4_cut
  refine al_oH' (fun g hg => ?_)
  have e0 : g 1 0 = h 1 0 := by rw [hg]; exact dU_ne (by omega)
  have e5 : (g 1 5).toInt = 0 := by rw [hg, dU_eq]; decide
  refine cut_7 hb _ 0 g (by rw [ti0]; omega) (by rw [ti0]; omega) (by unfold cOk; rw [e0, e5]; omega) (fun a k q1 _ _ _ => by rw [hg]; exact dU_ne q1) ⟨fun _ => 0, rfl, by rw [e5]; rfl, fun j hj => ?_⟩
  rw [ti0] at hj
  exact absurd hj (by omega)
end
