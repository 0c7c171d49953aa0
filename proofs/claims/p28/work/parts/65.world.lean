/-! both objects' worlds, whatever calls went before -/
theorem dC_len {sh : dSh} {h : dH} : (dC sh h).length = sh.length := by simp [dC]
def kdok (n kd : Nat) : Bool := decide (kd = 0) || (decide (kd = 1) || ((decide (kd = 2) && decide (31 ≤ n)) || ((decide (3 ≤ kd) && decide (kd < 9)) || (decide (9 ≤ kd) && decide (kd - 9 < n)))))
theorem kd_sc {n kd : Nat} {x : Int32} (h : kdok n kd = true) : xscV n (ddec kd x) = true := by
  unfold kdok at h
  simp only [Bool.or_eq_true, Bool.and_eq_true, decide_eq_true_eq] at h
  rcases h with rfl | rfl | ⟨rfl, h2⟩ | ⟨h3, h9⟩ | ⟨h9, hn⟩
  · rfl
  · rfl
  · show decide (dtx x < n) = true
    have : dtx x ≤ 30 := by
      unfold dtx
      have := Nat.mod_lt x.toInt.toNat (show 6 > 0 by decide)
      omega
    exact decide_eq_true (by omega)
  · obtain ⟨m, rfl⟩ : ∃ m, kd = m + 3 := ⟨kd - 3, by omega⟩
    rw [ddec_num (by omega)]; rfl
  · obtain ⟨m, rfl⟩ : ∃ m, kd = m + 9 := ⟨kd - 9, by omega⟩
    rw [ddec_ref]
    exact decide_eq_true (by omega)
theorem dC_sc {sh : dSh} (hs : sh.all (fun q => q.2.all (kdok sh.length)) = true) (h : dH) : xscoped (dC sh h) = true := by
  unfold xscoped
  rw [List.all_eq_true]
  intro q hq
  rw [List.all_eq_true]
  intro v hv
  rw [dC_len]
  obtain ⟨i, hi⟩ := List.mem_iff_getElem?.mp hq
  obtain ⟨k, hk⟩ := List.mem_iff_getElem?.mp hv
  simp only [dC, List.getElem?_mapIdx, Option.map_eq_some_iff] at hi
  obtain ⟨p, hp, rfl⟩ := hi
  simp only [dcell, List.getElem?_mapIdx, Option.map_eq_some_iff] at hk
  obtain ⟨kd, hkd, rfl⟩ := hk
  have h1 := List.all_eq_true.mp hs p (List.mem_of_getElem? hp)
  exact kd_sc (List.all_eq_true.mp h1 kd (List.mem_of_getElem? hkd))
set_option maxRecDepth 100000 in
theorem shC_sc : shC.all (fun q => q.2.all (kdok shC.length)) = true := by decide +kernel
set_option maxRecDepth 100000 in
theorem shM_sc : shM.all (fun q => q.2.all (kdok shM.length)) = true := by decide +kernel
/-! the fresh ones -/
noncomputable section
def hOf (C : List xCel) : dH := fun a k => match C[a]? with
  | some q => (match q.2[k]? with
    | some (.int x) => x
    | _ => 0)
  | none => 0
set_option maxRecDepth 100000 in
theorem xC0_d : xC0 = dC shC (hOf xC0) := xeqH_ok (by decide +kernel)
set_option maxRecDepth 100000 in
theorem xM0_d : xM0 = dC shM (hOf xM0) := xeqH_ok (by decide +kernel)
def chkI (b : Nat → Nat → Option (Int × Int)) (C : List xCel) : Bool := (List.range C.length).all fun a => match C[a]? with
  | some q => (List.range q.2.length).all fun k => (match b a k with
    | some (lo, hi) => decide (lo ≤ (hOf C a k).toInt) && decide ((hOf C a k).toInt ≤ hi)
    | none => true)
  | none => true
theorem chk_ok {b : Nat → Nat → Option (Int × Int)} {C : List xCel} (h : chkI b C = true) (hb : ∀ a k lo hi, b a k = some (lo, hi) → lo ≤ 0 ∧ 0 ≤ hi) (a k : Nat) (lo hi : Int) (e : b a k = some (lo, hi)) : lo ≤ (hOf C a k).toInt ∧ (hOf C a k).toInt ≤ hi := by
  have z : ((0 : Int32).toInt) = 0 := by decide
  cases hq : C[a]? with
  | none =>
    have : hOf C a k = 0 := by unfold hOf; rw [hq]
    rw [this, z]; exact hb a k lo hi e
  | some q =>
    have hal := (List.getElem?_eq_some_iff.mp hq).1
    by_cases hk : k < q.2.length
    · have h1 := List.all_eq_true.mp h a (List.mem_range.mpr hal)
      rw [hq] at h1
      have h2 := List.all_eq_true.mp h1 k (List.mem_range.mpr hk)
      rw [e] at h2
      simp only [Bool.and_eq_true, decide_eq_true_eq] at h2
      exact h2
    · have : hOf C a k = 0 := by
        unfold hOf; rw [hq]
        simp only
        rw [List.getElem?_eq_none (by omega)]
      rw [this, z]; exact hb a k lo hi e
theorem bndC0 (a k : Nat) (lo hi : Int) (e : bndC a k = some (lo, hi)) : lo ≤ 0 ∧ 0 ≤ hi := by
  unfold bndC at e
  repeat' split at e
  all_goals first
    | (cases e; omega)
    | cases e
theorem bndM0 (a k : Nat) (lo hi : Int) (e : bndM a k = some (lo, hi)) : lo ≤ 0 ∧ 0 ≤ hi := by
  unfold bndM at e
  repeat' split at e
  all_goals first
    | (cases e; omega)
    | cases e
set_option maxRecDepth 100000 in
theorem invC_0 : InvC (hOf xC0) := chk_ok (by decide +kernel) bndC0
set_option maxRecDepth 100000 in
theorem invM_0 : InvM (hOf xM0) := ⟨chk_ok (by decide +kernel) bndM0, fun s hs h => by
  have h4 : ∀ s, s < 4 → (hOf xM0 14 s).toInt = 0 := by decide +kernel
  exact absurd (h4 s hs) h⟩
end
