/-! feasts and years, as functions; the class -/
noncomputable section
def w99 (v : Int32) : Int32 := if v.toInt < 0 then 0 else if 99 < v.toInt then 99 else v
theorem w99_rng (v : Int32) : 0 ≤ (w99 v).toInt ∧ (w99 v).toInt ≤ 99 := by
  unfold w99
  by_cases h : v.toInt < 0
  · rw [if_pos h]; decide
  · rw [if_neg h]
    by_cases z : 99 < v.toInt
    · rw [if_pos z]; decide
    · rw [if_neg z]; omega
def tieS (st : zT2) (i j : Nat) (v : Int32) : zT2 := fun a b => if (a = i ∧ b = j) ∨ (a = j ∧ b = i) then v else st a b
def fsStep (Y : zY) (y : Int32) (i j : Nat) (st : zT2) : zT2 := if (yT Y i).toInt = -1 then st else if (yT Y i).toInt = (yT Y j).toInt then tieS st i j (w99 (st i j + (mtS Y y st i j + mtS Y y st j i))) else st
def yrStep (Y : zY) (y : Int32) (i j : Nat) (st : zT2) : zT2 := tieS st i j (w99 (st i j - (fdS Y y st i j + fdS Y y st j i)))
def fIn {σ : Type} (F : Nat → Nat → σ → σ) (i : Nat) : Nat → σ → σ
  | 0, s => s
  | j + 1, s => if i < j then F i j (fIn F i j s) else fIn F i j s
def fOut {σ : Type} (F : Nat → Nat → σ → σ) (N : Nat) : Nat → σ → σ
  | 0, s => s
  | i + 1, s => fIn F i N (fOut F N i s)
theorem fIn_le {σ : Type} {F : Nat → Nat → σ → σ} {i : Nat} {s : σ} : ∀ j, j ≤ i + 1 → fIn F i j s = s
  | 0, _ => rfl
  | j + 1, h => by rw [fIn, if_neg (by omega)]; exact fIn_le j (by omega)
def feastS (Y : zY) (y : Int32) (st : zT2) : zT2 := fOut (fsStep Y y) (yN Y) (yN Y) st
def fadeS (Y : zY) (y : Int32) (st : zT2) : zT2 := fOut (yrStep Y y) (yN Y) (yN Y) st
/-- strengths in range, told alike by both, 0 with oneself -/
def Wf (N : Nat) (st : zT2) : Prop := (∀ i j, i < N → j < N → 0 ≤ (st i j).toInt ∧ (st i j).toInt ≤ 99 ∧ st i j = st j i) ∧ ∀ i, i < N → st i i = 0
theorem Wf.tie {N : Nat} {st : zT2} (W : Wf N st) {i j : Nat} (hij : i < j) {v : Int32} (hv : 0 ≤ v.toInt ∧ v.toInt ≤ 99) : Wf N (tieS st i j v) := by
  refine ⟨fun a b ha hb => ?_, fun a ha => ?_⟩
  · obtain ⟨w1, w2, w3⟩ := W.1 a b ha hb
    unfold tieS
    by_cases c : (a = i ∧ b = j) ∨ (a = j ∧ b = i)
    · rw [if_pos c, if_pos (by omega)]; exact ⟨hv.1, hv.2, rfl⟩
    · rw [if_neg c, if_neg (by omega)]; exact ⟨w1, w2, w3⟩
  · unfold tieS
    rw [if_neg (by omega)]
    exact W.2 a ha
theorem Wf.fs {Y : zY} {y : Int32} {N : Nat} {st : zT2} (W : Wf N st) {i j : Nat} (hij : i < j) : Wf N (fsStep Y y i j st) := by
  unfold fsStep
  by_cases c : (yT Y i).toInt = -1
  · rw [if_pos c]; exact W
  · rw [if_neg c]
    by_cases d : (yT Y i).toInt = (yT Y j).toInt
    · rw [if_pos d]; exact W.tie hij (w99_rng _)
    · rw [if_neg d]; exact W
theorem Wf.yr {Y : zY} {y : Int32} {N : Nat} {st : zT2} (W : Wf N st) {i j : Nat} (hij : i < j) : Wf N (yrStep Y y i j st) := W.tie hij (w99_rng _)
theorem Wf.goIn {F : Nat → Nat → zT2 → zT2} {N : Nat} (hF : ∀ i j st, i < j → Wf N st → Wf N (F i j st)) {i : Nat} {st : zT2} (W : Wf N st) : ∀ j, Wf N (fIn F i j st)
  | 0 => W
  | j + 1 => by
    rw [fIn]
    by_cases c : i < j
    · rw [if_pos c]; exact hF i j _ c (Wf.goIn hF W j)
    · rw [if_neg c]; exact Wf.goIn hF W j
theorem Wf.goOut {F : Nat → Nat → zT2 → zT2} {N M : Nat} (hF : ∀ i j st, i < j → Wf N st → Wf N (F i j st)) {st : zT2} (W : Wf N st) : ∀ i, Wf N (fOut F M i st)
  | 0 => W
  | i + 1 => Wf.goIn hF (Wf.goOut hF W i) M
theorem Wf.feast {Y : zY} {y : Int32} {st : zT2} (W : Wf (yN Y) st) : Wf (yN Y) (feastS Y y st) := W.goOut (fun _ _ _ h w => w.fs h) _
theorem Wf.fade {Y : zY} {y : Int32} {st : zT2} (W : Wf (yN Y) st) : Wf (yN Y) (fadeS Y y st) := W.goOut (fun _ _ _ h w => w.yr h) _
/-- numbers and what the rule tells are in range -/
def Yr (Y : zY) : Prop := (∀ i, i < yN Y → 0 ≤ (yB Y i).toInt ∧ (yB Y i).toInt ≤ 9) ∧ ∀ pt nm, 0 ≤ (yE Y pt nm).toInt ∧ (yE Y pt nm).toInt ≤ 60
theorem half_rng {v : Int32} (h : 0 ≤ v.toInt ∧ v.toInt ≤ 60) : 0 ≤ (v / 2).toInt ∧ (v / 2).toInt ≤ 60 := by
  have e : (v / 2).toInt = v.toInt / 2 := by
    rw [Int32.toInt_div, show (2 : Int32).toInt = 2 by decide, Int.tdiv_eq_ediv_of_nonneg h.1]
    exact bm32 (by omega) (by omega)
  rw [e]
  omega
theorem mtV_rng {k n v ap : Int32} (hn : 0 ≤ n.toInt ∧ n.toInt ≤ 9) (hv : 0 ≤ v.toInt ∧ v.toInt ≤ 60) : 0 ≤ (mtV k n v ap).toInt ∧ (mtV k n v ap).toInt ≤ 200 := by
  have h2 : (2 * v).toInt = 2 * v.toInt := i_mul (by decide) rfl (by omega) (by omega)
  have h3 : (2 * v + n).toInt = 2 * v.toInt + n.toInt := i_add h2 rfl (by omega) (by omega)
  have hh := half_rng hv
  have h0 : (0 : Int32).toInt = 0 := ti0
  have h9 : (3 : Int32).toInt = 3 := by decide
  unfold mtV
  repeat' split
  all_goals omega
theorem fdV_rng {k y v : Int32} (hv : 0 ≤ v.toInt ∧ v.toInt ≤ 60) : 0 ≤ (fdV k y v).toInt ∧ (fdV k y v).toInt ≤ 200 := by
  have h1 : (v + 1).toInt = v.toInt + 1 := i_add rfl ti1 (by omega) (by omega)
  have h2 : (2 * (v + 1)).toInt = 2 * (v.toInt + 1) := i_mul (by decide) h1 (by omega) (by omega)
  have hh := half_rng hv
  have h0 : (0 : Int32).toInt = 0 := ti0
  unfold fdV
  repeat' split
  all_goals omega
theorem mtS_rng {Y : zY} (hY : Yr Y) {y : Int32} {st : zT2} {i j : Nat} (hi : i < yN Y) : 0 ≤ (mtS Y y st i j).toInt ∧ (mtS Y y st i j).toInt ≤ 200 := mtV_rng (hY.1 i hi) (hY.2 _ _)
theorem fdS_rng {Y : zY} (hY : Yr Y) {y : Int32} {st : zT2} {i j : Nat} : 0 ≤ (fdS Y y st i j).toInt ∧ (fdS Y y st i j).toInt ≤ 200 := fdV_rng (hY.2 _ _)
theorem w99_min {x : Int32} (h : 0 ≤ x.toInt) : dmin 99 x = w99 x := by
  unfold dmin w99
  have e99 : (99 : Int32).toInt = 99 := by decide
  have lt : x < 99 ↔ x.toInt < 99 := by rw [Int32.lt_iff_toInt_lt, e99]
  by_cases c : x < 99
  · have c' := lt.mp c
    rw [if_pos c, if_neg (show ¬ x.toInt < 0 by omega), if_neg (show ¬ 99 < x.toInt by omega)]
  · have c' : ¬ x.toInt < 99 := fun z => c (lt.mpr z)
    rw [if_neg c, if_neg (show ¬ x.toInt < 0 by omega)]
    by_cases d : 99 < x.toInt
    · rw [if_pos d]
    · rw [if_neg d]
      apply Int32.toInt_inj.mp
      omega
theorem w99_max {x : Int32} (h : x.toInt ≤ 99) : dmax 0 x = w99 x := by
  unfold dmax w99
  have lt : 0 < x ↔ 0 < x.toInt := by rw [Int32.lt_iff_toInt_lt, ti0]
  by_cases c : 0 < x
  · have c' := lt.mp c
    rw [if_pos c, if_neg (by omega), if_neg (by omega)]
  · have c' : ¬ 0 < x.toInt := fun z => c (lt.mpr z)
    rw [if_neg c]
    by_cases d : x.toInt < 0
    · rw [if_pos d]
    · rw [if_neg d, if_neg (by omega)]
      apply Int32.toInt_inj.mp
      rw [ti0]; omega
/-! the class -/
/-- all but a street's names, the piles, its strengths, its YEAR -/
def fFr (a N : Nat) (g h : dH) : Prop := ∀ b k, ¬ b = a + 13 → ¬ (13 ≤ b ∧ b ≤ 33 ∧ b % 4 = 1) → ¬ (a + 5 ≤ b ∧ b < a + 5 + N ∧ k < N) → ¬ (b = a ∧ k = 0) → g b k = h b k
theorem fFr.refl (a N : Nat) (h : dH) : fFr a N h h := fun _ _ _ _ _ _ => rfl
theorem fFr.trans {a N : Nat} {f g h : dH} (q : fFr a N f g) (r : fFr a N g h) : fFr a N f h := fun b k x y z w => (q b k x y z w).trans (r b k x y z w)
theorem nFr.f {a N : Nat} {g h : dH} (q : nFr a g h) : fFr a N g h := fun b k x y _ _ => q b k x y
theorem tie_ok {a : Nat} (ha : zS a) {h : dH} {Y : zY} {y : Int32} {st : zT2} (H : SC a Y y st h) {v1 v2 v3 : Int32} {i j : Nat} (h1 : v1.toInt = i) (h2 : v2.toInt = j) (hi : i < yN Y) (hj : j < yN Y) : Al (f_X3_tie a v1 v2 v3 h) (fun g => SC a Y y (tieS st i j v3) g ∧ fFr a (yN Y) g h) := by
  have z := zS_or ha
  obtain ⟨h0, h1', h2', h3, h4, h5, h6, h7, h8⟩ := H
  have e1 : v1.toInt.toNat = i := by omega
  have e2 : v2.toInt.toNat = j := by omega
  unfold f_X3_tie
  rw [e1, e2]
  refine al_ite (fun _ => al_ite (fun _ => al_oH' (fun g2 q2 => al_ite (fun _ => al_ite (fun _ => al_oH' (fun g q5 => al_some ?_)) (fun _ => al_none)) (fun _ => al_none))) (fun _ => al_none)) (fun _ => al_none)
  have e : ∀ b k, ¬ (a + 5 ≤ b ∧ b < a + 5 + yN Y ∧ k < yN Y) → g b k = h b k := fun b k hb => by rw [q5, dU_ne (by omega), q2, dU_ne (by omega)]
  have t := dtx_or (h a 3)
  have e3 : g a 3 = h a 3 := e a 3 (by omega)
  obtain ⟨c1, c2, c3⟩ := tEv_congr (f := g) (g := h) (ta := dtx (h a 3)) (fun k => e _ k (by omega)) (fun k => e _ k (by omega))
  refine ⟨⟨by rw [e a 0 (by omega)]; exact h0, by rw [e a 1 (by omega)]; exact h1', by rw [e a 2 (by omega)]; exact h2', h3, fun p hp => ?_, fun p q hp hq => ?_, ?_, ?_, ?_⟩, fun b k _ _ x _ => e b k x⟩
  · rw [e (a + 1) p (by omega), e (a + 2) p (by omega), e (a + 3) p (by omega)]; exact h4 p hp
  · unfold tieS
    rw [q5, q2]
    by_cases c : p = j ∧ q = i
    · rw [if_pos (Or.inr c), c.1, c.2, dU_eq]
    · rw [dU_ne (by omega)]
      by_cases d : p = i ∧ q = j
      · rw [if_pos (Or.inl d), d.1, d.2, dU_eq]
      · rw [dU_ne (by omega), if_neg (by omega)]
        exact h5 p q hp hq
  · rw [e3]; exact c1.mpr h6
  · rw [e3]; exact fun nm pt hp => by rw [c2]; exact h7 nm pt hp
  · rw [e3]; exact fun pt nm hp => by rw [c3]; exact h8 pt nm hp
theorem SC.lt {a : Nat} {Y : zY} {y : Int32} {st : zT2} {h : dH} (H : SC a Y y st h) {v : Int32} : v.toInt < (h a 2).toInt ↔ v.toInt < yN Y := by
  rw [H.2.2.1]
theorem inc1 {v : Int32} (h : v.toInt < 1000) : (v + 1).toInt = v.toInt + 1 := by
  have := lt32 v
  exact i_add rfl ti1 (by omega) (by omega)
theorem holdFeast_14 {a : Nat} (ha : zS a) {Y : zY} (hY : Yr Y) {y : Int32} {st : zT2} {k : dH → Option dH} {P : dH → Prop} {v1 : Int32} {i : Nat} (h1 : v1.toInt = i) (hi : i < yN Y) : ∀ (n : Nat) (v2 : Int32) (h : dH), i < v2.toInt → v2.toInt ≤ yN Y → SC a Y y (fIn (fsStep Y y) i v2.toInt.toNat st) h → Wf (yN Y) (fIn (fsStep Y y) i v2.toInt.toNat st) → (∀ g, SC a Y y (fIn (fsStep Y y) i (yN Y) st) g → Wf (yN Y) (fIn (fsStep Y y) i (yN Y) st) → fFr a (yN Y) g h → Al (k g) P) → Al (l_X3_holdFeast_14 a v1 k n v2 h) P
  | 0, _, _, _, _, _, _, _ => al_none
  | n + 1, v2, h, p0, p1, H, W, K => by
    rw [l_X3_holdFeast_14]
    have z := zS_or ha
    obtain ⟨H0, H1, H2, H3, H4, H5, -⟩ := id H
    have e1 : v1.toInt.toNat = i := by omega
    have t2 := inc1 (v := v2) (by omega)
    obtain ⟨j, hj⟩ : ∃ j, v2.toInt.toNat = j := ⟨_, rfl⟩
    have en : (v2 + 1).toInt.toNat = j + 1 := by omega
    rw [hj] at H W H5
    rw [e1, hj, H2]
    have nx : v2.toInt < yN Y → ∀ g, SC a Y y (fsStep Y y i j (fIn (fsStep Y y) i j st)) g → fFr a (yN Y) g h → Al (l_X3_holdFeast_14 a v1 k n (v2 + 1) g) P := by
      intro hlt g Hg hg
      have ei : fIn (fsStep Y y) i (v2 + 1).toInt.toNat st = fsStep Y y i j (fIn (fsStep Y y) i j st) := by rw [en, fIn, if_pos (by omega)]
      refine holdFeast_14 ha hY h1 hi n (v2 + 1) g (by omega) (by omega) (by rw [ei]; exact Hg) (by rw [ei]; exact W.fs (by omega)) (fun g' x1 x2 x3 => K g' x1 x2 (x3.trans hg))
    refine al_ite (fun c => al_ite (fun _ => ?_) (fun _ => al_none)) (fun c => ?_)
    · rw [(H4 i hi).2.2, (H4 j (by omega)).2.2]
      refine al_ite (fun d => nx (by omega) h (by unfold fsStep; rw [if_pos d]; exact H) (fFr.refl _ _ _)) (fun d => al_ite (fun _ => al_ite (fun _ => al_ite (fun d2 => al_oI (fun r12 g13 q13 => al_oI (fun r14 g15 q15 => al_ite (fun _ => al_ite (fun _ => al_oV' (fun g18 q18 => ?_)) (fun _ => al_none)) (fun _ => al_none)))) (fun d2 => nx (by omega) h (by unfold fsStep; rw [if_neg d, if_neg d2]; exact H) (fFr.refl _ _ _))) (fun _ => al_none)) (fun _ => al_none))
      have hjN : j < yN Y := by omega
      have h2j : v2.toInt = j := by omega
      obtain ⟨m1, m2⟩ := meets_ok ha H h1 h2j hi hjN (r12, g13) q13
      simp only at m1 m2
      obtain ⟨m3, m4⟩ := meets_ok ha (H.n ha m2) h2j h1 hjN hi (r14, g15) q15
      simp only at m3 m4
      have m5 := m4.trans m2
      have es : g15 (a + 5 + i) j = fIn (fsStep Y y) i j st i j := by rw [m5 _ _ (by omega) (by omega)]; exact H5 i j hi hjN
      obtain ⟨x1, x2⟩ := tie_ok ha (H.n ha m5) h1 h2j hi hjN g18 q18
      refine nx (by omega) g18 ?_ (x2.trans m5.f)
      unfold fsStep
      rw [if_neg d, if_pos d2]
      have r1 := mtS_rng hY (y := y) (st := fIn (fsStep Y y) i j st) (i := i) (j := j) hi
      have r2 := mtS_rng hY (y := y) (st := fIn (fsStep Y y) i j st) (i := j) (j := i) hjN
      have r3 := W.1 i j hi hjN
      rw [es, m1, m3] at x1
      have s1 : (mtS Y y (fIn (fsStep Y y) i j st) i j + mtS Y y (fIn (fsStep Y y) i j st) j i).toInt = (mtS Y y (fIn (fsStep Y y) i j st) i j).toInt + (mtS Y y (fIn (fsStep Y y) i j st) j i).toInt := i_add rfl rfl (by omega) (by omega)
      have s2 : (fIn (fsStep Y y) i j st i j + (mtS Y y (fIn (fsStep Y y) i j st) i j + mtS Y y (fIn (fsStep Y y) i j st) j i)).toInt = (fIn (fsStep Y y) i j st i j).toInt + ((mtS Y y (fIn (fsStep Y y) i j st) i j).toInt + (mtS Y y (fIn (fsStep Y y) i j st) j i).toInt) := i_add rfl s1 (by omega) (by omega)
      rw [w99_min (by omega)] at x1
      exact x1
    · have ej : j = yN Y := by omega
      rw [ej] at H W
      exact K h H W (fFr.refl _ _ _)
theorem holdFeast_2 {a : Nat} (ha : zS a) {Y : zY} (hY : Yr Y) {y : Int32} {st : zT2} {k : dH → Option dH} {P : dH → Prop} : ∀ (n : Nat) (v1 : Int32) (h : dH), 0 ≤ v1.toInt → v1.toInt ≤ yN Y → SC a Y y (fOut (fsStep Y y) (yN Y) v1.toInt.toNat st) h → Wf (yN Y) (fOut (fsStep Y y) (yN Y) v1.toInt.toNat st) → (∀ g, SC a Y y (feastS Y y st) g → Wf (yN Y) (feastS Y y st) → fFr a (yN Y) g h → Al (k g) P) → Al (l_X3_holdFeast_2 a k n v1 h) P
  | 0, _, _, _, _, _, _, _ => al_none
  | n + 1, v1, h, p0, p1, H, W, K => by
    rw [l_X3_holdFeast_2]
    have hN := H.2.2.2.1
    have t1 := inc1 (v := v1) (by omega)
    refine al_ite (fun c => ?_) (fun c => ?_)
    · have c' := H.lt.mp c
      have e2 : (v1 + 1).toInt.toNat = v1.toInt.toNat + 1 := by omega
      have el : fIn (fsStep Y y) v1.toInt.toNat (v1 + 1).toInt.toNat (fOut (fsStep Y y) (yN Y) v1.toInt.toNat st) = fOut (fsStep Y y) (yN Y) v1.toInt.toNat st := fIn_le _ (by omega)
      have eo : fIn (fsStep Y y) v1.toInt.toNat (yN Y) (fOut (fsStep Y y) (yN Y) v1.toInt.toNat st) = fOut (fsStep Y y) (yN Y) (v1 + 1).toInt.toNat st := by rw [e2]; rfl
      refine holdFeast_14 ha hY (i := v1.toInt.toNat) (by omega) (by omega) _ (v1 + 1) h (by omega) (by omega) (by rw [el]; exact H) (by rw [el]; exact W) (fun g x1 x2 x3 => ?_)
      rw [eo] at x1 x2
      exact holdFeast_2 ha hY n (v1 + 1) g (by omega) (by omega) x1 x2 (fun g' z1 z2 z3 => K g' z1 z2 (z3.trans x3))
    · have c' : ¬ v1.toInt < yN Y := fun z => c (H.lt.mpr z)
      have ej : v1.toInt.toNat = yN Y := by omega
      rw [ej] at H W
      exact K h H W (fFr.refl _ _ _)
theorem holdFeast_ok {a : Nat} (ha : zS a) {Y : zY} (hY : Yr Y) {y : Int32} {st : zT2} {h : dH} (H : SC a Y y st h) (W : Wf (yN Y) st) : Al (f_X3_holdFeast a h) (fun g => SC a Y y (feastS Y y st) g ∧ Wf (yN Y) (feastS Y y st) ∧ fFr a (yN Y) g h) :=
  holdFeast_2 ha hY _ 0 h (by decide) (by rw [ti0]; omega) H W (fun g x1 x2 x3 => al_some ⟨x1, x2, x3⟩)
theorem endYear_14 {a : Nat} (ha : zS a) {Y : zY} (hY : Yr Y) {y : Int32} {st : zT2} {k : dH → Option dH} {P : dH → Prop} {v1 : Int32} {i : Nat} (h1 : v1.toInt = i) (hi : i < yN Y) : ∀ (n : Nat) (v2 : Int32) (h : dH), i < v2.toInt → v2.toInt ≤ yN Y → SC a Y y (fIn (yrStep Y y) i v2.toInt.toNat st) h → Wf (yN Y) (fIn (yrStep Y y) i v2.toInt.toNat st) → (∀ g, SC a Y y (fIn (yrStep Y y) i (yN Y) st) g → Wf (yN Y) (fIn (yrStep Y y) i (yN Y) st) → fFr a (yN Y) g h → Al (k g) P) → Al (l_X3_endYear_14 a v1 k n v2 h) P
  | 0, _, _, _, _, _, _, _ => al_none
  | n + 1, v2, h, p0, p1, H, W, K => by
    rw [l_X3_endYear_14]
    have z := zS_or ha
    obtain ⟨H0, H1, H2, H3, H4, H5, -⟩ := id H
    have e1 : v1.toInt.toNat = i := by omega
    have t2 := inc1 (v := v2) (by omega)
    obtain ⟨j, hj⟩ : ∃ j, v2.toInt.toNat = j := ⟨_, rfl⟩
    have en : (v2 + 1).toInt.toNat = j + 1 := by omega
    rw [hj] at H W H5
    rw [e1, hj, H2]
    have nx : v2.toInt < yN Y → ∀ g, SC a Y y (yrStep Y y i j (fIn (yrStep Y y) i j st)) g → fFr a (yN Y) g h → Al (l_X3_endYear_14 a v1 k n (v2 + 1) g) P := by
      intro hlt g Hg hg
      have ei : fIn (yrStep Y y) i (v2 + 1).toInt.toNat st = yrStep Y y i j (fIn (yrStep Y y) i j st) := by rw [en, fIn, if_pos (by omega)]
      refine endYear_14 ha hY h1 hi n (v2 + 1) g (by omega) (by omega) (by rw [ei]; exact Hg) (by rw [ei]; exact W.yr (by omega)) (fun g' x1 x2 x3 => K g' x1 x2 (x3.trans hg))
    refine al_ite (fun c => al_oI (fun r12 g13 q13 => al_oI (fun r14 g15 q15 => al_ite (fun _ => al_ite (fun _ => al_oV' (fun g18 q18 => ?_)) (fun _ => al_none)) (fun _ => al_none)))) (fun c => ?_)
    · have hjN : j < yN Y := by omega
      have h2j : v2.toInt = j := by omega
      obtain ⟨m1, m2⟩ := forgets_ok ha H h1 h2j hi hjN (r12, g13) q13
      simp only at m1 m2
      obtain ⟨m3, m4⟩ := forgets_ok ha (H.n ha m2) h2j h1 hjN hi (r14, g15) q15
      simp only at m3 m4
      have m5 := m4.trans m2
      have es : g15 (a + 5 + i) j = fIn (yrStep Y y) i j st i j := by rw [m5 _ _ (by omega) (by omega)]; exact H5 i j hi hjN
      obtain ⟨x1, x2⟩ := tie_ok ha (H.n ha m5) h1 h2j hi hjN g18 q18
      refine nx (by omega) g18 ?_ (x2.trans m5.f)
      unfold yrStep
      have r1 := fdS_rng hY (y := y) (st := fIn (yrStep Y y) i j st) (i := i) (j := j)
      have r2 := fdS_rng hY (y := y) (st := fIn (yrStep Y y) i j st) (i := j) (j := i)
      have r3 := W.1 i j hi hjN
      rw [es, m1, m3] at x1
      have s1 : (fdS Y y (fIn (yrStep Y y) i j st) i j + fdS Y y (fIn (yrStep Y y) i j st) j i).toInt = (fdS Y y (fIn (yrStep Y y) i j st) i j).toInt + (fdS Y y (fIn (yrStep Y y) i j st) j i).toInt := i_add rfl rfl (by omega) (by omega)
      have s2 : (fIn (yrStep Y y) i j st i j - (fdS Y y (fIn (yrStep Y y) i j st) i j + fdS Y y (fIn (yrStep Y y) i j st) j i)).toInt = (fIn (yrStep Y y) i j st i j).toInt - ((fdS Y y (fIn (yrStep Y y) i j st) i j).toInt + (fdS Y y (fIn (yrStep Y y) i j st) j i).toInt) := i_sub rfl s1 (by omega) (by omega)
      rw [w99_max (by omega)] at x1
      exact x1
    · have ej : j = yN Y := by omega
      rw [ej] at H W
      exact K h H W (fFr.refl _ _ _)
theorem endYear_2 {a : Nat} (ha : zS a) {Y : zY} (hY : Yr Y) {y : Int32} {st : zT2} {k : dH → Option dH} {P : dH → Prop} : ∀ (n : Nat) (v1 : Int32) (h : dH), 0 ≤ v1.toInt → v1.toInt ≤ yN Y → SC a Y y (fOut (yrStep Y y) (yN Y) v1.toInt.toNat st) h → Wf (yN Y) (fOut (yrStep Y y) (yN Y) v1.toInt.toNat st) → (∀ g, SC a Y y (fadeS Y y st) g → Wf (yN Y) (fadeS Y y st) → fFr a (yN Y) g h → Al (k g) P) → Al (l_X3_endYear_2 a k n v1 h) P
  | 0, _, _, _, _, _, _, _ => al_none
  | n + 1, v1, h, p0, p1, H, W, K => by
    rw [l_X3_endYear_2]
    have hN := H.2.2.2.1
    have t1 := inc1 (v := v1) (by omega)
    refine al_ite (fun c => ?_) (fun c => ?_)
    · have c' := H.lt.mp c
      have e2 : (v1 + 1).toInt.toNat = v1.toInt.toNat + 1 := by omega
      have el : fIn (yrStep Y y) v1.toInt.toNat (v1 + 1).toInt.toNat (fOut (yrStep Y y) (yN Y) v1.toInt.toNat st) = fOut (yrStep Y y) (yN Y) v1.toInt.toNat st := fIn_le _ (by omega)
      have eo : fIn (yrStep Y y) v1.toInt.toNat (yN Y) (fOut (yrStep Y y) (yN Y) v1.toInt.toNat st) = fOut (yrStep Y y) (yN Y) (v1 + 1).toInt.toNat st := by rw [e2]; rfl
      refine endYear_14 ha hY (i := v1.toInt.toNat) (by omega) (by omega) _ (v1 + 1) h (by omega) (by omega) (by rw [el]; exact H) (by rw [el]; exact W) (fun g x1 x2 x3 => ?_)
      rw [eo] at x1 x2
      exact endYear_2 ha hY n (v1 + 1) g (by omega) (by omega) x1 x2 (fun g' z1 z2 z3 => K g' z1 z2 (z3.trans x3))
    · have c' : ¬ v1.toInt < yN Y := fun z => c (H.lt.mpr z)
      have ej : v1.toInt.toNat = yN Y := by omega
      rw [ej] at H W
      exact K h H W (fFr.refl _ _ _)
/-- YEAR alone -/
theorem SC.year {a : Nat} (ha : zS a) {Y : zY} {y x : Int32} {st : zT2} {h : dH} (H : SC a Y y st h) : SC a Y x st (dU h a 0 x) := by
  have z := zS_or ha
  obtain ⟨h0, h1, h2, h3, h4, h5, h6, h7, h8⟩ := H
  have e : ∀ b k, ¬ (b = a ∧ k = 0) → dU h a 0 x b k = h b k := fun b k q => dU_ne q
  have t := dtx_or (h a 3)
  have e3 := e a 3 (by omega)
  obtain ⟨c1, c2, c3⟩ := tEv_congr (f := dU h a 0 x) (g := h) (ta := dtx (h a 3)) (fun k => e _ k (by omega)) (fun k => e _ k (by omega))
  refine ⟨dU_eq, by rw [e a 1 (by omega)]; exact h1, by rw [e a 2 (by omega)]; exact h2, h3, fun i hi => ?_, fun i j hi hj => ?_, ?_, ?_, ?_⟩
  · rw [e (a + 1) i (by omega), e (a + 2) i (by omega), e (a + 3) i (by omega)]; exact h4 i hi
  · rw [e (a + 5 + i) j (by omega)]; exact h5 i j hi hj
  · rw [e3]; exact c1.mpr h6
  · rw [e3]; exact fun nm pt hp => by rw [c2]; exact h7 nm pt hp
  · rw [e3]; exact fun pt nm hp => by rw [c3]; exact h8 pt nm hp
theorem endYear_ok {a : Nat} (ha : zS a) {Y : zY} (hY : Yr Y) {y : Int32} {st : zT2} {h : dH} (H : SC a Y y st h) (W : Wf (yN Y) st) : Al (f_X3_endYear a h) (fun g => SC a Y (y + 1) (fadeS Y y st) g ∧ Wf (yN Y) (fadeS Y y st) ∧ fFr a (yN Y) g h) := by
  refine endYear_2 ha hY _ 0 h (by decide) (by rw [ti0]; omega) H W (fun g x1 x2 x3 => al_oH' (fun g2 q2 => al_some ?_))
  have e0 : g a 0 = y := x1.1
  rw [e0] at q2
  refine ⟨by rw [q2]; exact x1.year ha, x2, fun b k n1 n2 n3 n4 => ?_⟩
  rw [q2, dU_ne n4]
  exact x3 b k n1 n2 n3 n4
end
