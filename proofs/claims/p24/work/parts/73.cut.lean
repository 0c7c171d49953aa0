/-! the class's tokens -/
noncomputable section
def cB (h : dH) (j : Nat) : Int := (h 5 j).toInt
def cN (h : dH) : Nat := (h 1 0).toInt.toNat
def cOk (h : dH) : Prop := (h 1 0).toInt ≤ 160 ∧ 0 ≤ (h 1 5).toInt ∧ (h 1 5).toInt ≤ (h 1 0).toInt
/-- but for the place of the cutting -/
def atS (g h : dH) : Prop := ∀ a k, ¬ (a = 1 ∧ k = 5) → g a k = h a k
theorem atS.refl (h : dH) : atS h h := fun _ _ _ => rfl
theorem atS.trans {f g h : dH} (h1 : atS f g) (h2 : atS g h) : atS f h := fun a k q => (h1 a k q).trans (h2 a k q)
theorem atS.bytes {g h : dH} (q : atS g h) : cB g = cB h := by funext j; unfold cB; rw [q 5 j (by omega)]
theorem atS.n {g h : dH} (q : atS g h) : cN g = cN h := by unfold cN; rw [q 1 0 (by omega)]
theorem at1 {g h : dH} (hg : g = dU h 1 5 ((h 1 5) + 1)) (ho : cOk h) (hl : (h 1 5).toInt < (h 1 0).toInt) : atS g h ∧ (g 1 5).toInt = (h 1 5).toInt + 1 ∧ cOk g := by
  obtain ⟨o1, o2, o3⟩ := ho
  have e0 : g 1 0 = h 1 0 := by rw [hg]; exact dU_ne (by omega)
  have e5 : (g 1 5).toInt = (h 1 5).toInt + 1 := by rw [hg, dU_eq]; exact i_add rfl (by decide) (by omega) (by omega)
  refine ⟨fun a k q => by rw [hg]; exact dU_ne q, e5, ?_⟩
  unfold cOk
  rw [e0, e5]
  omega
theorem isBl_ok {v : Int32} : Al (f_X4_isBlank v) (fun r => (r.toInt = 1 ∧ isBl v.toInt) ∨ (r.toInt = 0 ∧ ¬ isBl v.toInt)) := by
  unfold f_X4_isBlank isBl
  exact al_ite (fun c => al_some (by rw [ti1]; omega)) (fun c => al_ite (fun d => al_some (by rw [ti1]; omega)) (fun d => al_some (by rw [ti0]; omega)))
theorem isDg_ok {v : Int32} : Al (f_X4_isDigit v) (fun r => (r.toInt = 1 ∧ isDg v.toInt) ∨ (r.toInt = 0 ∧ ¬ isDg v.toInt)) := by
  unfold f_X4_isDigit isDg
  exact al_ite (fun c => al_some (by rw [ti0]; omega)) (fun c => al_ite (fun d => al_some (by rw [ti0]; omega)) (fun d => al_some (by rw [ti1]; omega)))
theorem isSm_ok {v : Int32} : Al (f_X4_isSmall v) (fun r => (r.toInt = 1 ∧ isSm v.toInt) ∨ (r.toInt = 0 ∧ ¬ isSm v.toInt)) := by
  unfold f_X4_isSmall isSm
  exact al_ite (fun c => al_some (by rw [ti0]; omega)) (fun c => al_ite (fun d => al_some (by rw [ti0]; omega)) (fun d => al_some (by rw [ti1]; omega)))
theorem cut_14 {k : dH → Option dH} {P : dH → Prop} : ∀ (n : Nat) (h : dH), cOk h → (∀ g, atS g h → cOk g → Run isBl (cB h) (cN h) (h 1 5).toInt.toNat (g 1 5).toInt.toNat → Al (k g) P) → Al (l_X4_cut_14 k n h) P
  | 0, _, _, _ => al_none
  | n + 1, h, ho, K => by
    rw [l_X4_cut_14]
    have oo := ho
    obtain ⟨o1, o2, o3⟩ := oo
    refine al_ite (fun c => al_ite (fun _ => al_oP (fun r hr => ?_)) (fun _ => al_none)) (fun c => K h (atS.refl h) ho (Run.stop (by unfold cN; omega) (fun z => by unfold cN at z; omega)))
    have hb := isBl_ok r hr
    refine al_ite (fun c2 => K h (atS.refl h) ho (Run.stop (by unfold cN; omega) (fun _ => ?_))) (fun c2 => al_oH' (fun g hg => ?_))
    · rcases hb with hb | hb
      · omega
      · exact hb.2
    · obtain ⟨m, e5, og⟩ := at1 hg ho c
      refine cut_14 n g og (fun f q1 q2 q3 => K f (q1.trans m) q2 (Run.step ?_ ?_))
      · rcases hb with hb | hb
        · exact hb.2
        · omega
      · rw [m.bytes, m.n, e5] at q3
        rw [show (h 1 5).toInt.toNat + 1 = ((h 1 5).toInt + 1).toNat by omega]
        exact q3
theorem cutWord_0 {k : dH → Option dH} {P : dH → Prop} : ∀ (n : Nat) (h : dH), cOk h → (∀ g, atS g h → cOk g → Run isSm (cB h) (cN h) (h 1 5).toInt.toNat (g 1 5).toInt.toNat → Al (k g) P) → Al (l_X4_cutWord_0 k n h) P
  | 0, _, _, _ => al_none
  | n + 1, h, ho, K => by
    rw [l_X4_cutWord_0]
    have oo := ho
    obtain ⟨o1, o2, o3⟩ := oo
    refine al_ite (fun c => al_ite (fun _ => al_oP (fun r hr => ?_)) (fun _ => al_none)) (fun c => K h (atS.refl h) ho (Run.stop (by unfold cN; omega) (fun z => by unfold cN at z; omega)))
    have hb := isSm_ok r hr
    refine al_ite (fun c2 => K h (atS.refl h) ho (Run.stop (by unfold cN; omega) (fun _ => ?_))) (fun c2 => al_oH' (fun g hg => ?_))
    · rcases hb with hb | hb
      · omega
      · exact hb.2
    · obtain ⟨m, e5, og⟩ := at1 hg ho c
      refine cutWord_0 n g og (fun f q1 q2 q3 => K f (q1.trans m) q2 (Run.step ?_ ?_))
      · rcases hb with hb | hb
        · exact hb.2
        · omega
      · rw [m.bytes, m.n, e5] at q3
        rw [show (h 1 5).toInt.toNat + 1 = ((h 1 5).toInt + 1).toNat by omega]
        exact q3
theorem numV_bd {B : Nat → Int} {s : Nat} : ∀ n, (∀ j, j < n → isDg (B (s + j))) → 0 ≤ numV B s n ∧ numV B s n < 10 ^ n
  | 0, _ => by simp [numV]
  | n + 1, h => by
    have ih := numV_bd n (fun j hj => h j (by omega))
    have hn := h n (by omega)
    unfold isDg at hn
    rw [numV, Int.pow_succ]
    omega
theorem cutNumber_2 {k : Int32 → dH → Option dH} {P : dH → Prop} (s : Nat) : ∀ (n : Nat) (v : Int32) (h : dH), cOk h → s ≤ (h 1 5).toInt.toNat → (∀ j, s ≤ j → j < (h 1 5).toInt.toNat → isDg (cB h j)) → ((h 1 5).toInt.toNat - s ≤ 4 → v.toInt = numV (cB h) s ((h 1 5).toInt.toNat - s)) → (∀ (w : Int32) g, atS g h → cOk g → Run isDg (cB h) (cN h) (h 1 5).toInt.toNat (g 1 5).toInt.toNat → ((g 1 5).toInt.toNat - s ≤ 4 → w.toInt = numV (cB h) s ((g 1 5).toInt.toNat - s)) → Al (k w g) P) → Al (l_X4_cutNumber_2 k n v h) P
  | 0, _, _, _, _, _, _, _ => al_none
  | n + 1, v, h, ho, hs, hd, hv, K => by
    rw [l_X4_cutNumber_2]
    have oo := ho
    obtain ⟨o1, o2, o3⟩ := oo
    refine al_ite (fun c => al_ite (fun _ => al_oP (fun r hr => ?_)) (fun _ => al_none)) (fun c => K v h (atS.refl h) ho (Run.stop (by unfold cN; omega) (fun z => by unfold cN at z; omega)) hv)
    have hb := isDg_ok r hr
    refine al_ite (fun c2 => K v h (atS.refl h) ho (Run.stop (by unfold cN; omega) (fun _ => ?_)) hv) (fun c2 => al_ite (fun _ => al_oH' (fun g hg => ?_)) (fun _ => al_none))
    · rcases hb with hb | hb
      · omega
      · exact hb.2
    · have hdd : isDg (cB h (h 1 5).toInt.toNat) := by
        rcases hb with hb | hb
        · exact hb.2
        · omega
      obtain ⟨m, e5, og⟩ := at1 hg ho c
      have e5n : (g 1 5).toInt.toNat = (h 1 5).toInt.toNat + 1 := by omega
      refine cutNumber_2 s n _ g og (by omega) (fun j j1 j2 => ?_) (fun z => ?_) (fun w f q1 q2 q3 q4 => K w f (q1.trans m) q2 (Run.step hdd ?_) ?_)
      · rw [m.bytes]
        by_cases e : j = (h 1 5).toInt.toNat
        · rw [e]; exact hdd
        · exact hd j j1 (by omega)
      · rw [e5n] at z
        have hv' := hv (by omega)
        have hbd := numV_bd (B := cB h) (s := s) ((h 1 5).toInt.toNat - s) (fun j hj => hd _ (by omega) (by omega))
        have hle : (10 : Int) ^ ((h 1 5).toInt.toNat - s) ≤ 1000 := by
          have : (h 1 5).toInt.toNat - s = 0 ∨ (h 1 5).toInt.toNat - s = 1 ∨ (h 1 5).toInt.toNat - s = 2 ∨ (h 1 5).toInt.toNat - s = 3 := by omega
          rcases this with e | e | e | e <;> rw [e] <;> decide
        unfold isDg cB at hdd
        have t1 : (v * 10).toInt = v.toInt * 10 := i_mul rfl (by decide) (by omega) (by omega)
        have t2 : (v * 10 + h 5 (h 1 5).toInt.toNat).toInt = v.toInt * 10 + (h 5 (h 1 5).toInt.toNat).toInt := i_add t1 rfl (by omega) (by omega)
        have t3 : (v * 10 + h 5 (h 1 5).toInt.toNat - 48).toInt = v.toInt * 10 + (h 5 (h 1 5).toInt.toNat).toInt - 48 := i_sub t2 (by decide) (by omega) (by omega)
        rw [t3, m.bytes, e5n, show (h 1 5).toInt.toNat + 1 - s = ((h 1 5).toInt.toNat - s) + 1 by omega, numV, ← hv', show s + ((h 1 5).toInt.toNat - s) = (h 1 5).toInt.toNat by omega]
        unfold cB
        omega
      · rw [m.bytes, m.n, e5n] at q3
        exact q3
      · rw [m.bytes] at q4
        exact q4
/-! words -/
def sI (w : Nat) : List Int := (strOf w).map Int32.toInt
theorem reads_17 {a : Nat} (ha : zStr a) {v : Int32} {h : dH} (hv : 0 ≤ v.toInt) (hb : v.toInt + (strOf a).length ≤ 160) : ∀ (n : Nat) (x : Int32), 0 ≤ x.toInt → x.toInt ≤ (strOf a).length → Al (l_X4_reads_17 a v h (some 1) n x) (fun r => (r.toInt = 1 ∧ ∀ j : Nat, x.toInt ≤ j → j < (sI a).length → some (cB h (v.toInt.toNat + j)) = (sI a)[j]?) ∨ (r.toInt = 0 ∧ ∃ j : Nat, j < (sI a).length ∧ ¬ some (cB h (v.toInt.toNat + j)) = (sI a)[j]?))
  | 0, _, _, _ => al_none
  | n + 1, x, x0, x1 => by
    have hl : (sI a).length = (strOf a).length := by simp [sI]
    rw [l_X4_reads_17]
    refine al_oP (fun r hr => ?_)
    have hr1 : r.toInt = (strOf a).length := by
      obtain ⟨o, ho, hp⟩ := s_J0_length_8abf5 a ha
      rw [hr] at ho
      cases ho
      exact hp.1
    refine al_ite (fun c => al_ite (fun c1 => al_oP (fun r2 hr2 => ?_)) (fun _ => al_none)) (fun c => al_some (Or.inl ⟨ti1, fun j j1 j2 => by omega⟩))
    obtain ⟨-, he⟩ := chr_at hr2
    have te : (v + x).toInt = v.toInt + x.toInt := i_add rfl rfl (by omega) (by omega)
    have hx : (sI a)[x.toInt.toNat]? = some r2.toInt := by unfold sI; rw [List.getElem?_map, he]; rfl
    have hc : cB h (v.toInt.toNat + x.toInt.toNat) = (h 5 ((v + x).toInt.toNat)).toInt := by
      unfold cB; rw [te, Int.toNat_add hv x0]
    have tx : (x + 1).toInt = x.toInt + 1 := i_add rfl (by decide) (by omega) (by omega)
    refine al_ite (fun c2 => ?_) (fun c2 => al_some (Or.inr ⟨ti0, x.toInt.toNat, by omega, ?_⟩))
    · intro o ho
      rcases reads_17 ha hv hb n (x + 1) (by omega) (by omega) o ho with ⟨q1, q2⟩ | q
      · refine Or.inl ⟨q1, fun j j1 j2 => ?_⟩
        by_cases e : j = x.toInt.toNat
        · rw [e, hx, hc, c2]
        · exact q2 j (by omega) j2
      · exact Or.inr q
    · rw [hx, hc]
      intro e
      exact c2 (Option.some.inj e)
theorem reads_ok {a : Nat} (ha : zStr a) {v : Int32} {h : dH} (ho : cOk h) (hv : 0 ≤ v.toInt) (hle : v.toInt ≤ (h 1 5).toInt) : Al (f_X4_reads a v h) (fun r => (r.toInt = 1 ∧ isW (cB h) v.toInt.toNat (h 1 5).toInt.toNat (sI a)) ∨ (r.toInt = 0 ∧ ¬ isW (cB h) v.toInt.toNat (h 1 5).toInt.toNat (sI a))) := by
  unfold f_X4_reads
  obtain ⟨o1, o2, o3⟩ := ho
  have hl : (sI a).length = (strOf a).length := by simp [sI]
  refine al_oP (fun r hr => ?_)
  have hr1 : r.toInt = (strOf a).length := by
    obtain ⟨o, ho, hp⟩ := s_J0_length_8abf5 a ha
    rw [hr] at ho
    cases ho
    exact hp.1
  have ts : ((h 1 5) - v).toInt = (h 1 5).toInt - v.toInt := i_sub rfl rfl (by omega) (by omega)
  refine al_ite (fun c => ?_) (fun c => al_some (Or.inr ⟨ti0, fun z => c (by have := z.1; omega)⟩))
  intro o ho
  rcases reads_17 ha hv (by omega) _ 0 (by rw [ti0]; omega) (by rw [ti0]; omega) o ho with ⟨q1, q2⟩ | ⟨q1, j, j1, j2⟩
  · exact Or.inl ⟨q1, by omega, fun j hj => q2 j (by rw [ti0]; omega) hj⟩
  · exact Or.inr ⟨q1, fun z => j2 (z.2 j j1)⟩
end
