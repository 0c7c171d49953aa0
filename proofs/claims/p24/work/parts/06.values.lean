/-! what the engine's values and cells are, on the machine -/
def xv (ad : Nat → Nat) (ρ : Nat → Int32) (fm : Value) : Value → Value
  | .ref k => .ref (ad k)
  | .retAddr j => if j % 2 = 0 then .int (ρ (j % 32 / 2) + Int32.ofNat (j / 32)) else .long (ρ (j % 32 / 2) + Int32.ofNat (j / 32)).toInt64
  | .float _ => fm
  | v => v
def xokR (ρ : Nat → Int32) (rg : xRG) : Prop := ∀ (k : Nat) (q : Int × Int), rg[k]? = some q → q.1 ≤ (ρ k).toInt ∧ (ρ k).toInt ≤ q.2
def xokF (fm : Value) : Prop := fm = .null ∨ ∃ a, fm = .ref a
section XVL
variable {ad : Nat → Nat} {ρ : Nat → Int32} {fm : Value} {rg : xRG}
theorem xv_I {v : Value} (h : xisI v = true) : ∃ x, xv ad ρ fm v = .int x := by
  cases v with
  | int x => exact ⟨x, rfl⟩
  | retAddr j =>
    have h' : j % 2 = 0 := by simpa [xisI] using h
    exact ⟨_, by rw [xv, if_pos h']⟩
  | _ => simp [xisI] at h
theorem xv_L {v : Value} (h : xisL v = true) : ∃ x, xv ad ρ fm v = .long x := by
  cases v with
  | long x => exact ⟨x, rfl⟩
  | retAddr j =>
    have h' : j % 2 = 1 := by simpa [xisL] using h
    exact ⟨_, by rw [xv, if_neg (by omega)]⟩
  | _ => simp [xisL] at h
theorem xv_R (hf : xokF fm) {v : Value} (h : xisR v = true) : xv ad ρ fm v = .null ∨ ∃ a, xv ad ρ fm v = .ref a := by
  cases v with
  | ref k => exact Or.inr ⟨_, rfl⟩
  | null => exact Or.inl rfl
  | float _ => exact hf
  | _ => simp [xisR] at h
theorem xv_cat (hf : xokF fm) (v : Value) : (xv ad ρ fm v).category = if xc2 v = true then 2 else 1 := by
  cases v with
  | retAddr j =>
    by_cases h : j % 2 = 0
    · rw [xv, if_pos h, if_neg (by simp [xc2]; omega)]; rfl
    · rw [xv, if_neg h, if_pos (by simp [xc2]; omega)]; rfl
  | float _ =>
    rcases hf with h | ⟨a, h⟩
    · show fm.category = _; rw [h]; rfl
    · show fm.category = _; rw [h]; rfl
  | _ => rfl
theorem xv_cat_le (hf : xokF fm) (v : Value) : (xv ad ρ fm v).category ≤ 2 := by
  rw [xv_cat hf]; split <;> omega
theorem xcat_sum (hf : xokF fm) : ∀ (r : List Value), r.length ≤ 4 → ((r.map (xv ad ρ fm)).map fun v => v.category).sum ≤ 8 := by
  have h : ∀ r : List Value, ((r.map (xv ad ρ fm)).map fun v => v.category).sum ≤ 2 * r.length := by
    intro r
    induction r with
    | nil => simp
    | cons a r ih =>
      have := xv_cat_le (ad := ad) (ρ := ρ) hf a
      simp only [List.map_cons, List.sum_cons, List.length_cons]
      simp only [List.map_map] at ih ⊢
      omega
  intro r hr
  have := h r
  omega
theorem xci_ok (hR : xokR ρ rg) {v : Value} {x : Int32} (h : xci rg v = some x) : xv ad ρ fm v = .int x := by
  cases v with
  | int y => simp [xci] at h; rw [h]; rfl
  | retAddr j =>
    unfold xci at h
    simp only [xnth_eq] at h
    split at h
    · next h0 =>
      split at h
      · next lo hi hq =>
        split at h
        · next he =>
          cases h
          have := hR _ _ hq
          have e : ρ (j % 32 / 2) = Int32.ofInt lo := by
            have h1 : (ρ (j % 32 / 2)).toInt = lo := by simp only at this; omega
            rw [← h1, Int32.ofInt_toInt]
          rw [xv, if_pos h0, e]
        · cases h
      · cases h
    · cases h
  | _ => simp [xci] at h
theorem xcl_ok (hR : xokR ρ rg) {v : Value} {x : Int64} (h : xcl rg v = some x) : xv ad ρ fm v = .long x := by
  cases v with
  | long y => simp [xcl] at h; rw [h]; rfl
  | retAddr j =>
    unfold xcl at h
    simp only [xnth_eq] at h
    split at h
    · cases h
    · next h0 =>
      split at h
      · next lo hi hq =>
        split at h
        · next he =>
          cases h
          have := hR _ _ hq
          have e : ρ (j % 32 / 2) = Int32.ofInt lo := by
            have h1 : (ρ (j % 32 / 2)).toInt = lo := by simp only at this; omega
            rw [← h1, Int32.ofInt_toInt]
          rw [xv, if_neg h0, e]
        · cases h
      · cases h
  | _ => simp [xcl] at h
theorem xiv_ok (hR : xokR ρ rg) {v : Value} {q : Int × Int} (h : xiv rg v = some q) : ∃ x : Int32, xv ad ρ fm v = .int x ∧ q.1 ≤ x.toInt ∧ x.toInt ≤ q.2 := by
  cases v with
  | int y => simp [xiv] at h; rw [← h]; exact ⟨y, rfl, Int.le_refl _, Int.le_refl _⟩
  | retAddr j =>
    unfold xiv at h
    simp only [xnth_eq] at h
    split at h
    · next h0 =>
      split at h
      · next h1 =>
        refine ⟨_, by rw [xv, if_pos h1], ?_⟩
        have e : j / 32 = 0 := by omega
        have e2 : j % 32 = j := by omega
        have := hR _ _ h
        rw [e, e2]
        simpa using this
      · cases h
    · cases h
  | _ => simp [xiv] at h
theorem xlv_ok (hR : xokR ρ rg) {v : Value} {q : Int × Int} (h : xlv rg v = some q) : ∃ x : Int64, xv ad ρ fm v = .long x ∧ q.1 ≤ x.toInt ∧ x.toInt ≤ q.2 := by
  cases v with
  | long y => simp [xlv] at h; rw [← h]; exact ⟨y, rfl, Int.le_refl _, Int.le_refl _⟩
  | retAddr j =>
    unfold xlv at h
    simp only [xnth_eq] at h
    split at h
    · next h0 =>
      split at h
      · next h1 =>
        refine ⟨_, by rw [xv, if_neg (by omega)], ?_⟩
        have e : j / 32 = 0 := by omega
        have e2 : j % 32 = j := by omega
        have := hR _ _ h
        rw [e, e2]
        simpa using this
      · cases h
    · cases h
  | _ => simp [xlv] at h
theorem xokR_set {k : Nat} {lo hi : Int} (hR : xokR ρ rg) (h : lo ≤ (ρ k).toInt ∧ (ρ k).toInt ≤ hi) : xokR ρ (rg.set k (lo, hi)) := by
  intro i q hq
  by_cases e : i = k
  · subst e
    by_cases hl : i < rg.length
    · rw [List.getElem?_set_self hl] at hq
      cases hq
      exact h
    · rw [List.getElem?_eq_none (by simpa using hl)] at hq
      cases hq
  · rw [List.getElem?_set_ne (Ne.symm e)] at hq
    exact hR i q hq
theorem xsp_ok (hR : xokR ρ rg) {v : Value} {t : Int} {l : List xRG} (h : xsp rg v t = some l) : ∃ rg' ∈ l, xokR ρ rg' := by
  cases v with
  | retAddr j =>
    unfold xsp at h
    simp only [xnth_eq] at h
    split at h
    · split at h
      · next lo hi hq =>
        split at h
        · split at h
          · cases h
            have := hR _ _ hq
            simp only at this
            by_cases hc : (ρ (j / 2)).toInt < t
            · exact ⟨_, List.mem_cons_self, xokR_set hR ⟨this.1, by omega⟩⟩
            · exact ⟨_, List.mem_cons_of_mem _ List.mem_cons_self, xokR_set hR ⟨by omega, this.2⟩⟩
          · cases h
        · cases h
      · cases h
    · cases h
  | _ => simp [xsp] at h
theorem xcs_ok (hR : xokR ρ rg) {v : Value} {l : List xRG} (h : xcs rg v = some l) : ∃ rg' ∈ l, xokR ρ rg' := by
  cases v with
  | retAddr j =>
    unfold xcs at h
    simp only [xnth_eq] at h
    split at h
    · next lo hi hq =>
      split at h
      · exact xsp_ok hR h
      · cases h
    · cases h
  | _ => simp [xcs] at h
theorem xelse_ok {α : Type} {a b : Option α} {x : α} (h : xelse a b = some x) : a = some x ∨ b = some x := by
  cases a with
  | some y => exact Or.inl h
  | none => exact Or.inr h
/-- a fork's ranges: whatever the numbers are, one of them holds -/
def xcov (ρ : Nat → Int32) (o : Option (List xRG)) : Prop := ∀ l, o = some l → ∃ rg' ∈ l, xokR ρ rg'
theorem xcov_sp (hR : xokR ρ rg) (v : Value) (t : Int) : xcov ρ (xsp rg v t) := fun _ h => xsp_ok hR h
theorem xcov_cs (hR : xokR ρ rg) (v : Value) : xcov ρ (xcs rg v) := fun _ h => xcs_ok hR h
theorem xcov_else {a b : Option (List xRG)} (ha : xcov ρ a) (hb : xcov ρ b) : xcov ρ (xelse a b) := fun l h => (xelse_ok h).elim (ha l) (hb l)
theorem xcov_none : xcov ρ none := fun _ h => by cases h
end XVL
theorem xlt_ok {a b : Int × Int} {r : Bool} {x y : Int} (h : xlt a b = some r) (ha : a.1 ≤ x ∧ x ≤ a.2) (hb : b.1 ≤ y ∧ y ≤ b.2) : (r = true ↔ x < y) := by
  unfold xlt at h
  split at h
  · cases h; simp; omega
  · split at h
    · cases h; simp; omega
    · cases h
theorem xeq_ok {a b : Int × Int} {r : Bool} {x y : Int} (h : xeq a b = some r) (ha : a.1 ≤ x ∧ x ≤ a.2) (hb : b.1 ≤ y ∧ y ≤ b.2) : (r = true ↔ x = y) := by
  unfold xeq at h
  split at h
  · cases h; simp; omega
  · split at h
    · cases h; simp; omega
    · split at h
      · split at h
        · cases h; simp; omega
        · cases h
      · cases h
theorem xnot_ok {o : Option Bool} {r : Bool} (h : xnot o = some r) : o = some (!r) := by
  cases o with
  | none => cases h
  | some b => cases h; simp
def xcP (c : ClassFile.Cond) (x y : Int32) : Prop := match c with
  | .lt => x < y
  | .ge => y ≤ x
  | .gt => y < x
  | .le => x ≤ y
  | .eq => x = y
  | .ne => ¬ x = y
theorem xcmp_ok {c : ClassFile.Cond} {a b : Int × Int} {r : Bool} {x y : Int32} (h : xcmp c a b = some r) (ha : a.1 ≤ x.toInt ∧ x.toInt ≤ a.2) (hb : b.1 ≤ y.toInt ∧ y.toInt ≤ b.2) : (r = true ↔ xcP c x y) := by
  have e : x = y ↔ x.toInt = y.toInt := ⟨fun h => by rw [h], fun h => Int32.toInt_inj.mp h⟩
  cases c with
  | lt => exact (xlt_ok h ha hb).trans Int32.lt_iff_toInt_lt.symm
  | gt => exact (xlt_ok h hb ha).trans Int32.lt_iff_toInt_lt.symm
  | eq => exact (xeq_ok h ha hb).trans e.symm
  | ge =>
    have := xlt_ok (xnot_ok h) ha hb
    show _ ↔ y ≤ x
    rw [Int32.le_iff_toInt_le]
    cases r <;> simp at this ⊢ <;> omega
  | le =>
    have := xlt_ok (xnot_ok h) hb ha
    show _ ↔ x ≤ y
    rw [Int32.le_iff_toInt_le]
    cases r <;> simp at this ⊢ <;> omega
  | ne =>
    have := xeq_ok (xnot_ok h) ha hb
    show _ ↔ ¬ x = y
    rw [e]
    cases r <;> simp at this ⊢ <;> omega
/-! the locals -/
def xLV (V : Value → Value) (ls : Array Slot) (mx : Nat) (lo : List (Option Value)) : Prop := ls.size = mx ∧ lv_wf ls ∧ ∀ (i : Nat) (v : Value), lo[i]? = some (some v) → ls[i]? = some (.val (V v))
def xlist (V : Value → Value) (lo : List (Option Value)) : List (Nat × Value) := (List.range lo.length).filterMap fun i => match lo[i]? with
  | some (some v) => some (i, V v)
  | _ => none
theorem xlist_mem {V : Value → Value} {lo : List (Option Value)} {i : Nat} {v : Value} (h : lo[i]? = some (some v)) : (i, V v) ∈ xlist V lo := by
  unfold xlist
  refine List.mem_filterMap.mpr ⟨i, List.mem_range.mpr (List.getElem?_eq_some_iff.mp h).1, ?_⟩
  rw [h]
theorem xLV.has {V : Value → Value} {ls : Array Slot} {mx : Nat} {lo : List (Option Value)} (h : xLV V ls mx lo) : lv_has ls mx (xlist V lo) := by
  refine ⟨h.1, h.2.1, fun q hq => ?_⟩
  obtain ⟨i, hi, e⟩ := List.mem_filterMap.mp hq
  revert e
  cases hl : lo[i]? with
  | none => intro e; cases e
  | some o =>
    cases o with
    | none => intro e; cases e
    | some v => intro e; cases e; exact h.2.2 i v hl
def xs1 (lo : List (Option Value)) (i : Nat) (v : Value) : List (Option Value) := match i with
  | 0 => lo.set 0 (some v)
  | k + 1 => (match (lo.set (k + 1) (some v))[k]? with
    | some (some w) => if xc2 w then (lo.set (k + 1) (some v)).set k none else lo.set (k + 1) (some v)
    | _ => lo.set (k + 1) (some v))
theorem xst1_eq {β : Type} (lo : List (Option Value)) (i : Nat) (v : Value) (K : List (Option Value) → β) : xst1 lo i v K = K (xs1 lo i v) := by
  unfold xst1 xs1
  rw [xset_eq]
  cases i with
  | zero => rfl
  | succ k =>
    simp only [xnth_eq]
    cases h : (lo.set (k + 1) (some v))[k]? with
    | none => rfl
    | some o =>
      cases o with
      | none => rfl
      | some w =>
        simp only
        split
        · rw [xset_eq]
        · rfl
theorem xs1_get {lo : List (Option Value)} {i j : Nat} {v w : Value} (h : (xs1 lo i v)[j]? = some (some w)) : (j = i ∧ w = v) ∨ (j ≠ i ∧ lo[j]? = some (some w) ∧ ¬ (j + 1 = i ∧ xc2 w = true)) := by
  have key : ∀ {n : Nat}, (lo.set n (some v))[j]? = some (some w) → (j = n ∧ w = v) ∨ (j ≠ n ∧ lo[j]? = some (some w)) := by
    intro n hn
    by_cases e : j = n
    · subst e
      by_cases hl : j < lo.length
      · rw [List.getElem?_set_self hl] at hn
        cases hn
        exact Or.inl ⟨rfl, rfl⟩
      · rw [List.getElem?_eq_none (by simpa using hl)] at hn
        cases hn
    · rw [List.getElem?_set_ne (Ne.symm e)] at hn
      exact Or.inr ⟨e, hn⟩
  unfold xs1 at h
  cases i with
  | zero =>
    rcases key h with q | q
    · exact Or.inl q
    · exact Or.inr ⟨q.1, q.2, fun z => by omega⟩
  | succ k =>
    simp only at h
    cases hk : (lo.set (k + 1) (some v))[k]? with
    | none =>
      rw [hk] at h
      rcases key h with q | q
      · exact Or.inl q
      · refine Or.inr ⟨q.1, q.2, fun z => ?_⟩
        have : j = k := by omega
        subst this
        rw [hk] at h
        cases h
    | some o =>
      rw [hk] at h
      cases o with
      | none =>
        rcases key h with q | q
        · exact Or.inl q
        · refine Or.inr ⟨q.1, q.2, fun z => ?_⟩
          have : j = k := by omega
          subst this
          rw [hk] at h
          cases h
      | some u =>
        simp only at h
        split at h
        · next hu =>
          by_cases e : j = k
          · subst e
            have hl : j < (lo.set (j + 1) (some v)).length := (List.getElem?_eq_some_iff.mp hk).1
            rw [List.getElem?_set_self hl] at h
            cases h
          · rw [List.getElem?_set_ne (Ne.symm e)] at h
            rcases key h with q | q
            · exact Or.inl q
            · exact Or.inr ⟨q.1, q.2, fun z => by omega⟩
        · next hu =>
          rcases key h with q | q
          · exact Or.inl q
          · refine Or.inr ⟨q.1, q.2, fun z => ?_⟩
            have : j = k := by omega
            subst this
            rw [hk] at h
            cases h
            exact hu z.2
theorem xLV_st1 {ad : Nat → Nat} {ρ : Nat → Int32} {fm : Value} (hf : xokF fm) {ls : Array Slot} {mx i : Nat} {lo : List (Option Value)} {v : Value} (h : lv_has ls mx ((i, xv ad ρ fm v) :: (xlist (xv ad ρ fm) lo).filter (fun q => !(q.1 == i) && !(q.1 + 1 == i && q.2.category == 2)))) : xLV (xv ad ρ fm) ls mx (xs1 lo i v) := by
  refine ⟨h.1, h.2.1, fun j w hj => ?_⟩
  rcases xs1_get hj with ⟨rfl, rfl⟩ | ⟨h1, h2, h3⟩
  · exact h.2.2 _ List.mem_cons_self
  · refine h.2.2 (j, xv ad ρ fm w) (List.mem_cons_of_mem _ (List.mem_filter.mpr ⟨xlist_mem h2, ?_⟩))
    have hc := xv_cat (ad := ad) (ρ := ρ) hf w
    have n1 : (j == i) = false := by simpa using h1
    by_cases e : j + 1 = i
    · have n2 : ¬ xc2 w = true := fun z => h3 ⟨e, z⟩
      rw [if_neg n2] at hc
      simp [n1, hc]
    · simp [n1, e]
theorem xst2_eq {β : Type} (lo : List (Option Value)) (i : Nat) (v : Value) (K : List (Option Value) → β) : xst2 lo i v K = K ((xs1 lo i v).set (i + 1) none) := by
  unfold xst2
  rw [xst1_eq, xset_eq]
theorem xLV_st2 {ad : Nat → Nat} {ρ : Nat → Int32} {fm : Value} (hf : xokF fm) {ls : Array Slot} {mx i : Nat} {lo : List (Option Value)} {v : Value} (h : lv_has ls mx ((i, xv ad ρ fm v) :: (xlist (xv ad ρ fm) lo).filter (fun q => !(q.1 == i) && (!(q.1 == i + 1) && !(q.1 + 1 == i && q.2.category == 2))))) : xLV (xv ad ρ fm) ls mx ((xs1 lo i v).set (i + 1) none) := by
  refine ⟨h.1, h.2.1, fun j w hj => ?_⟩
  by_cases e1 : j = i + 1
  · subst e1
    by_cases hl : i + 1 < (xs1 lo i v).length
    · rw [List.getElem?_set_self hl] at hj
      cases hj
    · rw [List.getElem?_eq_none (by simpa using hl)] at hj
      cases hj
  · rw [List.getElem?_set_ne (Ne.symm e1)] at hj
    rcases xs1_get hj with ⟨rfl, rfl⟩ | ⟨h1, h2, h3⟩
    · exact h.2.2 _ List.mem_cons_self
    · refine h.2.2 (j, xv ad ρ fm w) (List.mem_cons_of_mem _ (List.mem_filter.mpr ⟨xlist_mem h2, ?_⟩))
      have hc := xv_cat (ad := ad) (ρ := ρ) hf w
      have n1 : (j == i) = false := by simpa using h1
      have n3 : (j == i + 1) = false := by simpa using e1
      by_cases e : j + 1 = i
      · have n2 : ¬ xc2 w = true := fun z => h3 ⟨e, z⟩
        rw [if_neg n2] at hc
        simp [n1, n3, hc]
      · simp [n1, n3, e]
/-! the cells -/
def xI : Value → Int32
  | .int x => x
  | _ => 0
def xR : Value → Option Nat
  | .ref a => some a
  | _ => none
def xencC (cA : Nat → ClassId) (V : Value → Value) (q : xCel) : va_E :=
  if q.1 < 100 then .inr (q.1, q.2.map V)
  else if q.1 < 102 then .inl (cA q.1, q.2.length, .inl (fun j => xI (V (q.2.getD j .null))))
  else .inl (cA q.1, q.2.length, .inr (.inr (.inr (.inr (fun j => xR (V (q.2.getD j .null)))))))
def xenc (cA : Nat → ClassId) (V : Value → Value) (ad : Nat → Nat) (C : List xCel) : va_W := C.mapIdx fun k q => (ad k, xencC cA V q)
theorem xenc_get {cA : Nat → ClassId} {V : Value → Value} {ad : Nat → Nat} {C : List xCel} {k : Nat} {q : xCel} (h : C[k]? = some q) : (xenc cA V ad C)[k]? = some (ad k, xencC cA V q) := by
  unfold xenc
  rw [List.getElem?_mapIdx, h]
  rfl
theorem xenc_of {cA : Nat → ClassId} {V : Value → Value} {ad : Nat → Nat} {C : List xCel} {k : Nat} {z : Nat × va_E} (h : (xenc cA V ad C)[k]? = some z) : ∃ q, C[k]? = some q ∧ z = (ad k, xencC cA V q) := by
  unfold xenc at h
  rw [List.getElem?_mapIdx] at h
  cases hk : C[k]? with
  | none => rw [hk] at h; cases h
  | some q => rw [hk] at h; cases h; exact ⟨q, rfl, rfl⟩
theorem xenc_set {cA : Nat → ClassId} {V : Value → Value} {ad : Nat → Nat} {C : List xCel} {k : Nat} {q : xCel} : xenc cA V ad (C.set k q) = (xenc cA V ad C).set k (ad k, xencC cA V q) := by
  apply List.ext_getElem?
  intro i
  unfold xenc
  by_cases e : k = i
  · subst e
    by_cases hl : k < C.length
    · rw [List.getElem?_mapIdx, List.getElem?_set_self hl, List.getElem?_set_self (by simpa using hl)]
      rfl
    · rw [List.getElem?_eq_none (by simpa using hl), List.getElem?_eq_none (by simpa using hl)]
  · rw [List.getElem?_mapIdx, List.getElem?_set_ne e, List.getElem?_set_ne e, List.getElem?_mapIdx]
theorem xenc_push {cA : Nat → ClassId} {V : Value → Value} {ad : Nat → Nat} {C : List xCel} {q : xCel} : xenc cA V ad (C ++ [q]) = xenc cA V ad C ++ [(ad C.length, xencC cA V q)] := by
  unfold xenc
  rw [List.mapIdx_concat]
