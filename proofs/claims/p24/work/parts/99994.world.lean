/-! both objects' worlds, whatever calls went before -/
theorem dC_len {sh : dSh} {h : dH} : (dC sh h).length = sh.length := by simp [dC]
def kdok (n kd : Nat) : Bool := decide (kd = 0) || (decide (kd = 1) || ((decide (kd = 2) && decide (31 ≤ n)) || ((decide (3 ≤ kd) && decide (kd < 9)) || (decide (9 ≤ kd) && decide (kd - 9 < n)))))
theorem kd_sc {n kd : Nat} {x : Int32} (h : kdok n kd = true) : xscV n (ddec kd x) = true := by
  unfold kdok at h
  simp only [Bool.or_eq_true, Bool.and_eq_true, decide_eq_true_eq] at h
  rcases h with rfl | rfl | ⟨rfl, h2⟩ | ⟨h3, h9⟩ | ⟨h9, hn⟩
  · rfl
  · rfl
  · show decide (dtx x < n) = true
    have : dtx x ≤ 30 := by
      unfold dtx
      have := Nat.mod_lt x.toInt.toNat (show 6 > 0 by decide)
      omega
    exact decide_eq_true (by omega)
  · obtain ⟨m, rfl⟩ : ∃ m, kd = m + 3 := ⟨kd - 3, by omega⟩
    rw [ddec_num (by omega)]; rfl
  · obtain ⟨m, rfl⟩ : ∃ m, kd = m + 9 := ⟨kd - 9, by omega⟩
    rw [ddec_ref]
    rw [Nat.add_sub_cancel] at hn
    exact decide_eq_true hn
theorem dC_sc {sh : dSh} (hs : sh.all (fun q => q.2.all (kdok sh.length)) = true) (h : dH) : xscoped (dC sh h) = true := by
  unfold xscoped
  rw [List.all_eq_true]
  intro q hq
  rw [List.all_eq_true]
  intro v hv
  rw [dC_len]
  obtain ⟨i, hi⟩ := List.mem_iff_getElem?.mp hq
  obtain ⟨k, hk⟩ := List.mem_iff_getElem?.mp hv
  simp only [dC, List.getElem?_mapIdx, Option.map_eq_some_iff] at hi
  obtain ⟨p, hp, rfl⟩ := hi
  simp only [dcell, List.getElem?_mapIdx, Option.map_eq_some_iff] at hk
  obtain ⟨kd, hkd, rfl⟩ := hk
  have h1 := List.all_eq_true.mp hs p (List.mem_of_getElem? hp)
  exact kd_sc (List.all_eq_true.mp h1 kd (List.mem_of_getElem? hkd))
set_option maxRecDepth 100000 in
theorem shC_sc : shC.all (fun q => q.2.all (kdok shC.length)) = true := by decide +kernel
set_option maxRecDepth 100000 in
theorem shM_sc : shM.all (fun q => q.2.all (kdok shM.length)) = true := by decide +kernel
/-! the fresh ones -/
noncomputable section
def hOf (C : List xCel) : dH := fun a k => match C[a]? with
  | some q => (match q.2[k]? with
    | some (.int x) => x
    | _ => 0)
  | none => 0
def vint : Value → Int32
  | .int x => x
  | _ => 0
theorem hOf_get {C : List xCel} {a k : Nat} {q : xCel} {v : Value} (h1 : C[a]? = some q) (h2 : q.2[k]? = some v) : hOf C a k = vint v := by
  unfold hOf
  rw [h1]
  simp only
  rw [h2]
  cases v <;> rfl
def chkV : List Value → List Nat → Bool
  | [], [] => true
  | v :: vs, kd :: ks => decide (v = ddec kd (vint v)) && chkV vs ks
  | _, _ => false
def chkD : List xCel → dSh → Bool
  | [], [] => true
  | q :: C, p :: S => decide (q.1 = p.1) && (chkV q.2 p.2 && chkD C S)
  | _, _ => false
theorem chkV_get : ∀ {vs : List Value} {ks : List Nat}, chkV vs ks = true → ∀ k : Nat, (vs[k]? = none ∧ ks[k]? = none) ∨ ∃ v kd, vs[k]? = some v ∧ ks[k]? = some kd ∧ v = ddec kd (vint v)
  | [], [], _, k => Or.inl ⟨rfl, rfl⟩
  | [], _ :: _, h, _ => by cases h
  | _ :: _, [], h, _ => by cases h
  | v :: vs, kd :: ks, h, k => by
    unfold chkV at h
    simp only [Bool.and_eq_true, decide_eq_true_eq] at h
    match k with
    | 0 => exact Or.inr ⟨v, kd, rfl, rfl, h.1⟩
    | k + 1 => exact chkV_get h.2 k
theorem chkD_get : ∀ {C : List xCel} {S : dSh}, chkD C S = true → ∀ a : Nat, (C[a]? = none ∧ S[a]? = none) ∨ ∃ (q : xCel) (p : Nat × List Nat), C[a]? = some q ∧ S[a]? = some p ∧ q.1 = p.1 ∧ chkV q.2 p.2 = true
  | [], [], _, k => Or.inl ⟨rfl, rfl⟩
  | [], _ :: _, h, _ => by cases h
  | _ :: _, [], h, _ => by cases h
  | q :: C, p :: S, h, a => by
    unfold chkD at h
    simp only [Bool.and_eq_true, decide_eq_true_eq] at h
    match a with
    | 0 => exact Or.inr ⟨q, p, rfl, rfl, h.1, h.2.1⟩
    | a + 1 => exact chkD_get h.2.2 a
theorem chkD_ok {C : List xCel} {S : dSh} (h : chkD C S = true) : C = dC S (hOf C) := by
  apply List.ext_getElem?
  intro a
  rcases chkD_get h a with ⟨h1, h2⟩ | ⟨q, p, h1, h2, h3, h4⟩
  · simp [dC, h1, h2]
  · simp only [dC, List.getElem?_mapIdx, h1, h2, Option.map_some]
    congr 1
    refine Prod.ext h3 (List.ext_getElem? fun k => ?_)
    show q.2[k]? = (dcell (hOf C a) p.2)[k]?
    rcases chkV_get h4 k with ⟨g1, g2⟩ | ⟨v, kd, g1, g2, g3⟩
    · simp [dcell, g1, g2]
    · simp only [dcell, List.getElem?_mapIdx, g1, g2, Option.map_some, hOf_get h1 g1]
      rw [← g3]
set_option maxRecDepth 100000 in
theorem xC0_d : xC0 = dC shC (hOf xC0) := chkD_ok (by decide +kernel)
set_option maxRecDepth 100000 in
theorem xM0_d : xM0 = dC shM (hOf xM0) := chkD_ok (by decide +kernel)
def chkB (b : Nat → Nat → Option (Int × Int)) (a : Nat) : Nat → List Value → Bool
  | _, [] => true
  | k, v :: vs => (match b a k with
    | some (lo, hi) => decide (lo ≤ (vint v).toInt) && decide ((vint v).toInt ≤ hi)
    | none => true) && chkB b a (k + 1) vs
def chkI (b : Nat → Nat → Option (Int × Int)) : Nat → List xCel → Bool
  | _, [] => true
  | a, q :: C => chkB b a 0 q.2 && chkI b (a + 1) C
theorem chkB_get {b : Nat → Nat → Option (Int × Int)} {a : Nat} : ∀ {vs : List Value} {k0 : Nat}, chkB b a k0 vs = true → ∀ (k : Nat) (v : Value), vs[k]? = some v → ∀ lo hi, b a (k0 + k) = some (lo, hi) → lo ≤ (vint v).toInt ∧ (vint v).toInt ≤ hi
  | [], _, _, k, v, hv, _, _, _ => by cases hv
  | w :: vs, k0, h, k, v, hv, lo, hi, e => by
    unfold chkB at h
    rw [Bool.and_eq_true] at h
    match k, hv with
    | 0, hv =>
      cases hv
      rw [Nat.add_zero] at e
      rw [e] at h
      simp only [Bool.and_eq_true, decide_eq_true_eq] at h
      exact h.1
    | k + 1, hv => exact chkB_get h.2 k v hv lo hi (by rw [show k0 + 1 + k = k0 + (k + 1) by omega]; exact e)
theorem chkI_get {b : Nat → Nat → Option (Int × Int)} : ∀ {C : List xCel} {a0 : Nat}, chkI b a0 C = true → ∀ (a : Nat) (q : xCel), C[a]? = some q → chkB b (a0 + a) 0 q.2 = true
  | [], _, _, a, q, hq => by cases hq
  | p :: C, a0, h, a, q, hq => by
    unfold chkI at h
    rw [Bool.and_eq_true] at h
    match a, hq with
    | 0, hq => cases hq; exact h.1
    | a + 1, hq =>
      rw [show a0 + (a + 1) = a0 + 1 + a by omega]
      exact chkI_get h.2 a q hq
theorem chk_ok {b : Nat → Nat → Option (Int × Int)} {C : List xCel} (h : chkI b 0 C = true) (hb : ∀ a k lo hi, b a k = some (lo, hi) → lo ≤ 0 ∧ 0 ≤ hi) (a k : Nat) (lo hi : Int) (e : b a k = some (lo, hi)) : lo ≤ (hOf C a k).toInt ∧ (hOf C a k).toInt ≤ hi := by
  have z : ((0 : Int32).toInt) = 0 := by decide
  cases hq : C[a]? with
  | none =>
    have : hOf C a k = 0 := by unfold hOf; rw [hq]
    rw [this, z]; exact hb a k lo hi e
  | some q =>
    cases hv : q.2[k]? with
    | none =>
      have : hOf C a k = 0 := by
        unfold hOf; rw [hq]
        simp only
        rw [hv]
      rw [this, z]; exact hb a k lo hi e
    | some v =>
      rw [hOf_get hq hv]
      have h1 := chkI_get h a q hq
      rw [Nat.zero_add] at h1
      exact chkB_get h1 k v hv lo hi (by rw [Nat.zero_add]; exact e)
theorem bndC0 (a k : Nat) (lo hi : Int) (e : bndC a k = some (lo, hi)) : lo ≤ 0 ∧ 0 ≤ hi := by
  unfold bndC at e
  repeat' split at e
  all_goals first
    | (cases e; omega)
    | cases e
theorem bndM0 (a k : Nat) (lo hi : Int) (e : bndM a k = some (lo, hi)) : lo ≤ 0 ∧ 0 ≤ hi := by
  unfold bndM at e
  repeat' split at e
  all_goals first
    | (cases e; omega)
    | cases e
set_option maxRecDepth 100000 in
theorem invC_0 : InvC (hOf xC0) := chk_ok (by decide +kernel) bndC0
set_option maxRecDepth 100000 in
theorem invM_0 : InvM (hOf xM0) := ⟨chk_ok (by decide +kernel) bndM0, fun s hs h => by
  have h4 : ∀ s, s < 4 → (hOf xM0 14 s).toInt = 0 := by decide +kernel
  exact absurd (h4 s hs) h⟩
end
