section
/-! both objects' worlds, whatever calls went before -/
theorem dC_len {sh : dSh} {h : dH} : (dC sh h).length = sh.length := by simp [dC]
def kdok (n kd : Nat) : Bool := decide (kd = 0) || (decide (kd = 1) || ((decide (kd = 2) && decide (31 ≤ n)) || ((decide (3 ≤ kd) && decide (kd < 9)) || (decide (9 ≤ kd) && decide (kd - 9 < n)))))
theorem kd_sc {n kd : Nat} {x : Int32} (h : kdok n kd = true) : xscV n (ddec kd x) = true := by
  unfold kdok at h
  simp only [Bool.or_eq_true, Bool.and_eq_true, decide_eq_true_eq] at h
  rcases h with rfl | rfl | ⟨rfl, h2⟩ | ⟨h3, h9⟩ | ⟨h9, hn⟩
  · rfl
  · rfl
  · show decide (dtx x < n) = true
    have : dtx x ≤ 30 := by
      unfold dtx
      have := Nat.mod_lt x.toInt.toNat (show 6 > 0 by decide)
      omega
    exact decide_eq_true (by omega)
  · obtain ⟨m, rfl⟩ : ∃ m, kd = m + 3 := ⟨kd - 3, by omega⟩
    rw [ddec_num (by omega)]; rfl
  · obtain ⟨m, rfl⟩ : ∃ m, kd = m + 9 := ⟨kd - 9, by omega⟩
    rw [ddec_ref]
    rw [Nat.add_sub_cancel] at hn
    exact decide_eq_true hn
theorem dC_sc {sh : dSh} (hs : sh.all (fun q => q.2.all (kdok sh.length)) = true) (h : dH) : xscoped (dC sh h) = true := by
  unfold xscoped
  rw [List.all_eq_true]
  intro q hq
  rw [List.all_eq_true]
  intro v hv
  rw [dC_len]
  obtain ⟨i, hi⟩ := List.mem_iff_getElem?.mp hq
  obtain ⟨k, hk⟩ := List.mem_iff_getElem?.mp hv
  simp only [dC, List.getElem?_mapIdx, Option.map_eq_some_iff] at hi
  obtain ⟨p, hp, rfl⟩ := hi
  simp only [dcell, List.getElem?_mapIdx, Option.map_eq_some_iff] at hk
  obtain ⟨kd, hkd, rfl⟩ := hk
  have h1 := List.all_eq_true.mp hs p (List.mem_of_getElem? hp)
  exact kd_sc (List.all_eq_true.mp h1 kd (List.mem_of_getElem? hkd))
set_option maxRecDepth 100000 in
theorem shC_sc : shC.all (fun q => q.2.all (kdok shC.length)) = true := by decide +kernel
set_option maxRecDepth 100000 in
theorem shM_sc : shM.all (fun q => q.2.all (kdok shM.length)) = true := by decide +kernel
/-! the fresh ones -/
noncomputable section
def hOf (C : List xCel) : dH := fun a k => match C[a]? with
  | some q => (match q.2[k]? with
    | some (.int x) => x
    | _ => 0)
  | none => 0
def vint : Value → Int32
  | .int x => x
  | _ => 0
theorem hOf_get {C : List xCel} {a k : Nat} {q : xCel} {v : Value} (h1 : C[a]? = some q) (h2 : q.2[k]? = some v) : hOf C a k = vint v := by
  unfold hOf
  rw [h1]
  simp only
  rw [h2]
  cases v <;> rfl
def chkV : List Value → List Nat → Bool
  | [], [] => true
  | v :: vs, kd :: ks => decide (v = ddec kd (vint v)) && chkV vs ks
  | _, _ => false
def chkD : List xCel → dSh → Bool
  | [], [] => true
  | q :: C, p :: S => decide (q.1 = p.1) && (chkV q.2 p.2 && chkD C S)
  | _, _ => false
theorem chkV_get : ∀ {vs : List Value} {ks : List Nat}, chkV vs ks = true → ∀ k : Nat, (vs[k]? = none ∧ ks[k]? = none) ∨ ∃ v kd, vs[k]? = some v ∧ ks[k]? = some kd ∧ v = ddec kd (vint v)
  | [], [], _, k => Or.inl ⟨rfl, rfl⟩
  | [], _ :: _, h, _ => by cases h
  | _ :: _, [], h, _ => by cases h
  | v :: vs, kd :: ks, h, k => by
    unfold chkV at h
    simp only [Bool.and_eq_true, decide_eq_true_eq] at h
    match k with
    | 0 => exact Or.inr ⟨v, kd, rfl, rfl, h.1⟩
    | k + 1 => exact chkV_get h.2 k
theorem chkD_get : ∀ {C : List xCel} {S : dSh}, chkD C S = true → ∀ a : Nat, (C[a]? = none ∧ S[a]? = none) ∨ ∃ (q : xCel) (p : Nat × List Nat), C[a]? = some q ∧ S[a]? = some p ∧ q.1 = p.1 ∧ chkV q.2 p.2 = true
  | [], [], _, k => Or.inl ⟨rfl, rfl⟩
  | [], _ :: _, h, _ => by cases h
  | _ :: _, [], h, _ => by cases h
  | q :: C, p :: S, h, a => by
    unfold chkD at h
    simp only [Bool.and_eq_true, decide_eq_true_eq] at h
    match a with
    | 0 => exact Or.inr ⟨q, p, rfl, rfl, h.1, h.2.1⟩
    | a + 1 => exact chkD_get h.2.2 a
theorem chkD_ok {C : List xCel} {S : dSh} (h : chkD C S = true) : C = dC S (hOf C) := by
  apply List.ext_getElem?
  intro a
  rcases chkD_get h a with ⟨h1, h2⟩ | ⟨q, p, h1, h2, h3, h4⟩
  · simp [dC, h1, h2]
  · simp only [dC, List.getElem?_mapIdx, h1, h2, Option.map_some]
    congr 1
    refine Prod.ext h3 (List.ext_getElem? fun k => ?_)
    show q.2[k]? = (dcell (hOf C a) p.2)[k]?
    rcases chkV_get h4 k with ⟨g1, g2⟩ | ⟨v, kd, g1, g2, g3⟩
    · simp [dcell, g1, g2]
    · simp only [dcell, List.getElem?_mapIdx, g1, g2, Option.map_some, hOf_get h1 g1]
      rw [← g3]
set_option maxRecDepth 100000 in
theorem xC0_d : xC0 = dC shC (hOf xC0) := chkD_ok (by decide +kernel)
set_option maxRecDepth 100000 in
theorem xM0_d : xM0 = dC shM (hOf xM0) := chkD_ok (by decide +kernel)
def chkB (b : Nat → Nat → Option (Int × Int)) (a : Nat) : Nat → List Value → Bool
  | _, [] => true
  | k, v :: vs => (match b a k with
    | some (lo, hi) => decide (lo ≤ (vint v).toInt) && decide ((vint v).toInt ≤ hi)
    | none => true) && chkB b a (k + 1) vs
def chkI (b : Nat → Nat → Option (Int × Int)) : Nat → List xCel → Bool
  | _, [] => true
  | a, q :: C => chkB b a 0 q.2 && chkI b (a + 1) C
theorem chkB_get {b : Nat → Nat → Option (Int × Int)} {a : Nat} : ∀ {vs : List Value} {k0 : Nat}, chkB b a k0 vs = true → ∀ (k : Nat) (v : Value), vs[k]? = some v → ∀ lo hi, b a (k0 + k) = some (lo, hi) → lo ≤ (vint v).toInt ∧ (vint v).toInt ≤ hi
  | [], _, _, k, v, hv, _, _, _ => by cases hv
  | w :: vs, k0, h, k, v, hv, lo, hi, e => by
    unfold chkB at h
    rw [Bool.and_eq_true] at h
    match k, hv with
    | 0, hv =>
      cases hv
      rw [Nat.add_zero] at e
      rw [e] at h
      simp only [Bool.and_eq_true, decide_eq_true_eq] at h
      exact h.1
    | k + 1, hv => exact chkB_get h.2 k v hv lo hi (by rw [show k0 + 1 + k = k0 + (k + 1) by omega]; exact e)
theorem chkI_get {b : Nat → Nat → Option (Int × Int)} : ∀ {C : List xCel} {a0 : Nat}, chkI b a0 C = true → ∀ (a : Nat) (q : xCel), C[a]? = some q → chkB b (a0 + a) 0 q.2 = true
  | [], _, _, a, q, hq => by cases hq
  | p :: C, a0, h, a, q, hq => by
    unfold chkI at h
    rw [Bool.and_eq_true] at h
    match a, hq with
    | 0, hq => cases hq; exact h.1
    | a + 1, hq =>
      rw [show a0 + (a + 1) = a0 + 1 + a by omega]
      exact chkI_get h.2 a q hq
theorem chk_ok {b : Nat → Nat → Option (Int × Int)} {C : List xCel} (h : chkI b 0 C = true) (hb : ∀ a k lo hi, b a k = some (lo, hi) → lo ≤ 0 ∧ 0 ≤ hi) (a k : Nat) (lo hi : Int) (e : b a k = some (lo, hi)) : lo ≤ (hOf C a k).toInt ∧ (hOf C a k).toInt ≤ hi := by
  have z : ((0 : Int32).toInt) = 0 := by decide
  cases hq : C[a]? with
  | none =>
    have : hOf C a k = 0 := by unfold hOf; rw [hq]
    rw [this, z]; exact hb a k lo hi e
  | some q =>
    cases hv : q.2[k]? with
    | none =>
      have : hOf C a k = 0 := by
        unfold hOf; rw [hq]
        simp only
        rw [hv]
      rw [this, z]; exact hb a k lo hi e
    | some v =>
      rw [hOf_get hq hv]
      have h1 := chkI_get h a q hq
      rw [Nat.zero_add] at h1
      exact chkB_get h1 k v hv lo hi (by rw [Nat.zero_add]; exact e)
theorem bndC0 (a k : Nat) (lo hi : Int) (e : bndC a k = some (lo, hi)) : lo ≤ 0 ∧ 0 ≤ hi := by
  unfold bndC at e
  repeat' split at e
  all_goals first
    | (cases e; omega)
    | cases e
theorem bndM0 (a k : Nat) (lo hi : Int) (e : bndM a k = some (lo, hi)) : lo ≤ 0 ∧ 0 ≤ hi := by
  unfold bndM at e
  repeat' split at e
  all_goals first
    | (cases e; omega)
    | cases e
set_option maxRecDepth 100000 in
theorem invC_0 : InvC (hOf xC0) := chk_ok (by decide +kernel) bndC0
set_option maxRecDepth 100000 in
theorem invM_0 : InvM (hOf xM0) := ⟨chk_ok (by decide +kernel) bndM0, fun s hs h => by
  have h4 : ∀ s, s < 4 → (hOf xM0 14 s).toInt = 0 := by decide +kernel
  exact absurd (h4 s hs) h⟩
end
end

section
/-! fresh: both are alike -/
def xCG : List xCel := [(6, [.ref 1, .ref 42, .ref 6, .int 1, .ref 43, .ref 57, .ref 71, .int 0, .ref 7, .ref 9]),
  (4, [.int 40, .ref 2, .ref 3, .ref 4, .ref 5, .int 34]),
  (100, [.int 304, .int 302, .int 59, .int 305, .int 302, .int 59, .int 306, .int 303, .int 59, .int 300, .int 0, .int 0, .int 0, .int 0, .int 0, .int 0, .int 0, .int 0, .int 0, .int 0, .int 0, .int 0, .int 0, .int 0, .int 0, .int 0, .int 0, .int 0, .int 0, .int 0, .int 0, .int 0, .int 0, .int 0, .int 0, .int 0, .int 0, .int 0, .int 0, .int 0, .int 0, .int 0, .int 0, .int 0, .int 0, .int 0, .int 0, .int 0, .int 0, .int 0, .int 0, .int 0, .int 0, .int 0, .int 0, .int 0, .int 0, .int 0, .int 0, .int 0, .int 0, .int 0, .int 0, .int 0, .int 0, .int 0, .int 0, .int 0, .int 0, .int 0, .int 0, .int 0, .int 0, .int 0, .int 0, .int 0, .int 0, .int 0, .int 0, .int 0, .int 0, .int 0, .int 0, .int 0, .int 0, .int 0, .int 0, .int 0, .int 0, .int 0, .int 0, .int 0, .int 0, .int 0, .int 0, .int 0, .int 0, .int 0, .int 0, .int 0, .int 0, .int 0, .int 0, .int 0, .int 0, .int 0, .int 0, .int 0, .int 0, .int 0, .int 0, .int 0, .int 0, .int 0, .int 0, .int 0, .int 0, .int 0, .int 0, .int 0, .int 0, .int 0, .int 0, .int 0, .int 0, .int 0, .int 0, .int 0, .int 0, .int 0, .int 0, .int 0, .int 0, .int 0, .int 0, .int 0, .int 0, .int 0, .int 0, .int 0, .int 0, .int 0, .int 0, .int 0, .int 0, .int 0, .int 0, .int 0, .int 0, .int 0, .int 0, .int 0, .int 0, .int 0, .int 0, .int 0, .int 0, .int 0, .int 0, .int 0, .int 0]),
  (100, [.int 0, .int 6, .int 8, .int 10, .int 16, .int 18, .int 20, .int 27, .int 33, .int 34, .int 0, .int 0, .int 0, .int 0, .int 0, .int 0, .int 0, .int 0, .int 0, .int 0, .int 0, .int 0, .int 0, .int 0, .int 0, .int 0, .int 0, .int 0, .int 0, .int 0, .int 0, .int 0, .int 0, .int 0, .int 0, .int 0, .int 0, .int 0, .int 0, .int 0, .int 0, .int 0, .int 0, .int 0, .int 0, .int 0, .int 0, .int 0, .int 0, .int 0, .int 0, .int 0, .int 0, .int 0, .int 0, .int 0, .int 0, .int 0, .int 0, .int 0, .int 0, .int 0, .int 0, .int 0, .int 0, .int 0, .int 0, .int 0, .int 0, .int 0, .int 0, .int 0, .int 0, .int 0, .int 0, .int 0, .int 0, .int 0, .int 0, .int 0, .int 0, .int 0, .int 0, .int 0, .int 0, .int 0, .int 0, .int 0, .int 0, .int 0, .int 0, .int 0, .int 0, .int 0, .int 0, .int 0, .int 0, .int 0, .int 0, .int 0, .int 0, .int 0, .int 0, .int 0, .int 0, .int 0, .int 0, .int 0, .int 0, .int 0, .int 0, .int 0, .int 0, .int 0, .int 0, .int 0, .int 0, .int 0, .int 0, .int 0, .int 0, .int 0, .int 0, .int 0, .int 0, .int 0, .int 0, .int 0, .int 0, .int 0, .int 0, .int 0, .int 0, .int 0, .int 0, .int 0, .int 0, .int 0, .int 0, .int 0, .int 0, .int 0, .int 0, .int 0, .int 0, .int 0, .int 0, .int 0, .int 0, .int 0, .int 0, .int 0, .int 0, .int 0, .int 0, .int 0, .int 0, .int 0, .int 0, .int 0, .int 0]),
  (100, [.int 0, .int 5, .int 0, .int 0, .int 2, .int 0, .int 0, .int (-4), .int 0, .int 0, .int 0, .int 0, .int 0, .int 0, .int 0, .int 0, .int 0, .int 0, .int 0, .int 0, .int 0, .int 0, .int 0, .int 0, .int 0, .int 0, .int 0, .int 0, .int 0, .int 0, .int 0, .int 0, .int 0, .int 0, .int 0, .int 0, .int 0, .int 0, .int 0, .int 0, .int 0, .int 0, .int 0, .int 0, .int 0, .int 0, .int 0, .int 0, .int 0, .int 0, .int 0, .int 0, .int 0, .int 0, .int 0, .int 0, .int 0, .int 0, .int 0, .int 0, .int 0, .int 0, .int 0, .int 0, .int 0, .int 0, .int 0, .int 0, .int 0, .int 0, .int 0, .int 0, .int 0, .int 0, .int 0, .int 0, .int 0, .int 0, .int 0, .int 0, .int 0, .int 0, .int 0, .int 0, .int 0, .int 0, .int 0, .int 0, .int 0, .int 0, .int 0, .int 0, .int 0, .int 0, .int 0, .int 0, .int 0, .int 0, .int 0, .int 0, .int 0, .int 0, .int 0, .int 0, .int 0, .int 0, .int 0, .int 0, .int 0, .int 0, .int 0, .int 0, .int 0, .int 0, .int 0, .int 0, .int 0, .int 0, .int 0, .int 0, .int 0, .int 0, .int 0, .int 0, .int 0, .int 0, .int 0, .int 0, .int 0, .int 0, .int 0, .int 0, .int 0, .int 0, .int 0, .int 0, .int 0, .int 0, .int 0, .int 0, .int 0, .int 0, .int 0, .int 0, .int 0, .int 0, .int 0, .int 0, .int 0, .int 0, .int 0, .int 0, .int 0, .int 0, .int 0, .int 0, .int 0, .int 0, .int 0, .int 0, .int 0]),
  (100, [.int 109, .int 101, .int 101, .int 116, .int 115, .int 32, .int 53, .int 32, .int 59, .int 32, .int 102, .int 97, .int 100, .int 101, .int 115, .int 32, .int 50, .int 32, .int 59, .int 32, .int 115, .int 111, .int 117, .int 110, .int 100, .int 115, .int 32, .int 115, .int 101, .int 97, .int 116, .int 115, .int 32, .int 59, .int 32, .int 32, .int 32, .int 32, .int 32, .int 32, .int 0, .int 0, .int 0, .int 0, .int 0, .int 0, .int 0, .int 0, .int 0, .int 0, .int 0, .int 0, .int 0, .int 0, .int 0, .int 0, .int 0, .int 0, .int 0, .int 0, .int 0, .int 0, .int 0, .int 0, .int 0, .int 0, .int 0, .int 0, .int 0, .int 0, .int 0, .int 0, .int 0, .int 0, .int 0, .int 0, .int 0, .int 0, .int 0, .int 0, .int 0, .int 0, .int 0, .int 0, .int 0, .int 0, .int 0, .int 0, .int 0, .int 0, .int 0, .int 0, .int 0, .int 0, .int 0, .int 0, .int 0, .int 0, .int 0, .int 0, .int 0, .int 0, .int 0, .int 0, .int 0, .int 0, .int 0, .int 0, .int 0, .int 0, .int 0, .int 0, .int 0, .int 0, .int 0, .int 0, .int 0, .int 0, .int 0, .int 0, .int 0, .int 0, .int 0, .int 0, .int 0, .int 0, .int 0, .int 0, .int 0, .int 0, .int 0, .int 0, .int 0, .int 0, .int 0, .int 0, .int 0, .int 0, .int 0, .int 0, .int 0, .int 0, .int 0, .int 0, .int 0, .int 0, .int 0, .int 0, .int 0, .int 0, .int 0, .int 0, .int 0, .int 0, .int 0, .int 0, .int 0, .int 0, .int 0, .int 0]),
  (102, [.ref 10, .ref 14, .ref 18, .ref 22, .ref 26, .ref 30]),
  (0, [.int 0, .ref 8]),
  (100, [.int 0, .int 0, .int 0, .int 0, .int 0, .int 0, .int 0, .int 0]),
  (103, [.ref 34, .ref 36, .ref 38, .ref 40]),
  (5, [.int 0, .int 3, .ref 11, .ref 12, .ref 13]),
  (100, [.int 5, .int 2, .int (-4), .int 0, .int 0, .int 0, .int 0, .int 0, .int 0, .int 0, .int 0, .int 0, .int 0, .int 0, .int 0, .int 0, .int 0, .int 0, .int 0, .int 0, .int 0, .int 0, .int 0, .int 0, .int 0, .int 0, .int 0, .int 0, .int 0, .int 0, .int 0, .int 0, .int 0, .int 0, .int 0, .int 0, .int 0, .int 0, .int 0, .int 0, .int 0, .int 0, .int 0, .int 0, .int 0, .int 0, .int 0, .int 0, .int 0, .int 0, .int 0, .int 0, .int 0, .int 0, .int 0, .int 0, .int 0, .int 0, .int 0, .int 0, .int 0, .int 0, .int 0, .int 0, .int 0, .int 0, .int 0, .int 0, .int 0, .int 0, .int 0, .int 0, .int 0, .int 0, .int 0, .int 0, .int 0, .int 0, .int 0, .int 0, .int 0, .int 0, .int 0, .int 0, .int 0, .int 0, .int 0, .int 0, .int 0, .int 0, .int 0, .int 0, .int 0, .int 0, .int 0, .int 0, .int 0, .int 0, .int 0, .int 0, .int 0, .int 0, .int 0, .int 0, .int 0, .int 0, .int 0, .int 0, .int 0, .int 0, .int 0, .int 0, .int 0, .int 0, .int 0, .int 0, .int 0, .int 0, .int 0, .int 0, .int 0, .int 0, .int 0, .int 0, .int 0, .int 0, .int 0, .int 0, .int 0, .int 0, .int 0, .int 0, .int 0, .int 0, .int 0, .int 0, .int 0, .int 0, .int 0, .int 0, .int 0, .int 0, .int 0, .int 0, .int 0, .int 0, .int 0, .int 0, .int 0, .int 0, .int 0, .int 0, .int 0, .int 0, .int 0, .int 0, .int 0, .int 0, .int 0, .int 0]),
  (100, [.int 1, .int 2, .int 3]),
  (100, [.int 0, .int 0, .int 0, .int 0, .int 0, .int 0, .int 0, .int 0, .int 0, .int 0, .int 0, .int 0, .int 0, .int 0, .int 0, .int 0, .int 0, .int 0, .int 0, .int 0, .int 0, .int 0, .int 0, .int 0, .int 0, .int 0, .int 0, .int 0, .int 0, .int 0, .int 0, .int 0, .int 0, .int 0, .int 0, .int 0, .int 0, .int 0, .int 0, .int 0]),
  (5, [.int 1, .int 0, .ref 15, .ref 16, .ref 17]),
  (100, [.int 0, .int 0, .int 0, .int 0, .int 0, .int 0, .int 0, .int 0, .int 0, .int 0, .int 0, .int 0, .int 0, .int 0, .int 0, .int 0, .int 0, .int 0, .int 0, .int 0, .int 0, .int 0, .int 0, .int 0, .int 0, .int 0, .int 0, .int 0, .int 0, .int 0, .int 0, .int 0, .int 0, .int 0, .int 0, .int 0, .int 0, .int 0, .int 0, .int 0, .int 0, .int 0, .int 0, .int 0, .int 0, .int 0, .int 0, .int 0, .int 0, .int 0, .int 0, .int 0, .int 0, .int 0, .int 0, .int 0, .int 0, .int 0, .int 0, .int 0, .int 0, .int 0, .int 0, .int 0, .int 0, .int 0, .int 0, .int 0, .int 0, .int 0, .int 0, .int 0, .int 0, .int 0, .int 0, .int 0, .int 0, .int 0, .int 0, .int 0, .int 0, .int 0, .int 0, .int 0, .int 0, .int 0, .int 0, .int 0, .int 0, .int 0, .int 0, .int 0, .int 0, .int 0, .int 0, .int 0, .int 0, .int 0, .int 0, .int 0, .int 0, .int 0, .int 0, .int 0, .int 0, .int 0, .int 0, .int 0, .int 0, .int 0, .int 0, .int 0, .int 0, .int 0, .int 0, .int 0, .int 0, .int 0, .int 0, .int 0, .int 0, .int 0, .int 0, .int 0, .int 0, .int 0, .int 0, .int 0, .int 0, .int 0, .int 0, .int 0, .int 0, .int 0, .int 0, .int 0, .int 0, .int 0, .int 0, .int 0, .int 0, .int 0, .int 0, .int 0, .int 0, .int 0, .int 0, .int 0, .int 0, .int 0, .int 0, .int 0, .int 0, .int 0, .int 0, .int 0, .int 0, .int 0, .int 0, .int 0]),
  (100, [.int 0, .int 0, .int 0]),
  (100, [.int 0, .int 0, .int 0, .int 0, .int 0, .int 0, .int 0, .int 0, .int 0, .int 0, .int 0, .int 0, .int 0, .int 0, .int 0, .int 0, .int 0, .int 0, .int 0, .int 0, .int 0, .int 0, .int 0, .int 0, .int 0, .int 0, .int 0, .int 0, .int 0, .int 0, .int 0, .int 0, .int 0, .int 0, .int 0, .int 0, .int 0, .int 0, .int 0, .int 0]),
  (5, [.int 2, .int 0, .ref 19, .ref 20, .ref 21]),
  (100, [.int 0, .int 0, .int 0, .int 0, .int 0, .int 0, .int 0, .int 0, .int 0, .int 0, .int 0, .int 0, .int 0, .int 0, .int 0, .int 0, .int 0, .int 0, .int 0, .int 0, .int 0, .int 0, .int 0, .int 0, .int 0, .int 0, .int 0, .int 0, .int 0, .int 0, .int 0, .int 0, .int 0, .int 0, .int 0, .int 0, .int 0, .int 0, .int 0, .int 0, .int 0, .int 0, .int 0, .int 0, .int 0, .int 0, .int 0, .int 0, .int 0, .int 0, .int 0, .int 0, .int 0, .int 0, .int 0, .int 0, .int 0, .int 0, .int 0, .int 0, .int 0, .int 0, .int 0, .int 0, .int 0, .int 0, .int 0, .int 0, .int 0, .int 0, .int 0, .int 0, .int 0, .int 0, .int 0, .int 0, .int 0, .int 0, .int 0, .int 0, .int 0, .int 0, .int 0, .int 0, .int 0, .int 0, .int 0, .int 0, .int 0, .int 0, .int 0, .int 0, .int 0, .int 0, .int 0, .int 0, .int 0, .int 0, .int 0, .int 0, .int 0, .int 0, .int 0, .int 0, .int 0, .int 0, .int 0, .int 0, .int 0, .int 0, .int 0, .int 0, .int 0, .int 0, .int 0, .int 0, .int 0, .int 0, .int 0, .int 0, .int 0, .int 0, .int 0, .int 0, .int 0, .int 0, .int 0, .int 0, .int 0, .int 0, .int 0, .int 0, .int 0, .int 0, .int 0, .int 0, .int 0, .int 0, .int 0, .int 0, .int 0, .int 0, .int 0, .int 0, .int 0, .int 0, .int 0, .int 0, .int 0, .int 0, .int 0, .int 0, .int 0, .int 0, .int 0, .int 0, .int 0, .int 0, .int 0, .int 0]),
  (100, [.int 0, .int 0, .int 0]),
  (100, [.int 0, .int 0, .int 0, .int 0, .int 0, .int 0, .int 0, .int 0, .int 0, .int 0, .int 0, .int 0, .int 0, .int 0, .int 0, .int 0, .int 0, .int 0, .int 0, .int 0, .int 0, .int 0, .int 0, .int 0, .int 0, .int 0, .int 0, .int 0, .int 0, .int 0, .int 0, .int 0, .int 0, .int 0, .int 0, .int 0, .int 0, .int 0, .int 0, .int 0]),
  (5, [.int 3, .int 0, .ref 23, .ref 24, .ref 25]),
  (100, [.int 0, .int 0, .int 0, .int 0, .int 0, .int 0, .int 0, .int 0, .int 0, .int 0, .int 0, .int 0, .int 0, .int 0, .int 0, .int 0, .int 0, .int 0, .int 0, .int 0, .int 0, .int 0, .int 0, .int 0, .int 0, .int 0, .int 0, .int 0, .int 0, .int 0, .int 0, .int 0, .int 0, .int 0, .int 0, .int 0, .int 0, .int 0, .int 0, .int 0, .int 0, .int 0, .int 0, .int 0, .int 0, .int 0, .int 0, .int 0, .int 0, .int 0, .int 0, .int 0, .int 0, .int 0, .int 0, .int 0, .int 0, .int 0, .int 0, .int 0, .int 0, .int 0, .int 0, .int 0, .int 0, .int 0, .int 0, .int 0, .int 0, .int 0, .int 0, .int 0, .int 0, .int 0, .int 0, .int 0, .int 0, .int 0, .int 0, .int 0, .int 0, .int 0, .int 0, .int 0, .int 0, .int 0, .int 0, .int 0, .int 0, .int 0, .int 0, .int 0, .int 0, .int 0, .int 0, .int 0, .int 0, .int 0, .int 0, .int 0, .int 0, .int 0, .int 0, .int 0, .int 0, .int 0, .int 0, .int 0, .int 0, .int 0, .int 0, .int 0, .int 0, .int 0, .int 0, .int 0, .int 0, .int 0, .int 0, .int 0, .int 0, .int 0, .int 0, .int 0, .int 0, .int 0, .int 0, .int 0, .int 0, .int 0, .int 0, .int 0, .int 0, .int 0, .int 0, .int 0, .int 0, .int 0, .int 0, .int 0, .int 0, .int 0, .int 0, .int 0, .int 0, .int 0, .int 0, .int 0, .int 0, .int 0, .int 0, .int 0, .int 0, .int 0, .int 0, .int 0, .int 0, .int 0, .int 0, .int 0]),
  (100, [.int 0, .int 0, .int 0]),
  (100, [.int 0, .int 0, .int 0, .int 0, .int 0, .int 0, .int 0, .int 0, .int 0, .int 0, .int 0, .int 0, .int 0, .int 0, .int 0, .int 0, .int 0, .int 0, .int 0, .int 0, .int 0, .int 0, .int 0, .int 0, .int 0, .int 0, .int 0, .int 0, .int 0, .int 0, .int 0, .int 0, .int 0, .int 0, .int 0, .int 0, .int 0, .int 0, .int 0, .int 0]),
  (5, [.int 4, .int 0, .ref 27, .ref 28, .ref 29]),
  (100, [.int 0, .int 0, .int 0, .int 0, .int 0, .int 0, .int 0, .int 0, .int 0, .int 0, .int 0, .int 0, .int 0, .int 0, .int 0, .int 0, .int 0, .int 0, .int 0, .int 0, .int 0, .int 0, .int 0, .int 0, .int 0, .int 0, .int 0, .int 0, .int 0, .int 0, .int 0, .int 0, .int 0, .int 0, .int 0, .int 0, .int 0, .int 0, .int 0, .int 0, .int 0, .int 0, .int 0, .int 0, .int 0, .int 0, .int 0, .int 0, .int 0, .int 0, .int 0, .int 0, .int 0, .int 0, .int 0, .int 0, .int 0, .int 0, .int 0, .int 0, .int 0, .int 0, .int 0, .int 0, .int 0, .int 0, .int 0, .int 0, .int 0, .int 0, .int 0, .int 0, .int 0, .int 0, .int 0, .int 0, .int 0, .int 0, .int 0, .int 0, .int 0, .int 0, .int 0, .int 0, .int 0, .int 0, .int 0, .int 0, .int 0, .int 0, .int 0, .int 0, .int 0, .int 0, .int 0, .int 0, .int 0, .int 0, .int 0, .int 0, .int 0, .int 0, .int 0, .int 0, .int 0, .int 0, .int 0, .int 0, .int 0, .int 0, .int 0, .int 0, .int 0, .int 0, .int 0, .int 0, .int 0, .int 0, .int 0, .int 0, .int 0, .int 0, .int 0, .int 0, .int 0, .int 0, .int 0, .int 0, .int 0, .int 0, .int 0, .int 0, .int 0, .int 0, .int 0, .int 0, .int 0, .int 0, .int 0, .int 0, .int 0, .int 0, .int 0, .int 0, .int 0, .int 0, .int 0, .int 0, .int 0, .int 0, .int 0, .int 0, .int 0, .int 0, .int 0, .int 0, .int 0, .int 0, .int 0, .int 0]),
  (100, [.int 0, .int 0, .int 0]),
  (100, [.int 0, .int 0, .int 0, .int 0, .int 0, .int 0, .int 0, .int 0, .int 0, .int 0, .int 0, .int 0, .int 0, .int 0, .int 0, .int 0, .int 0, .int 0, .int 0, .int 0, .int 0, .int 0, .int 0, .int 0, .int 0, .int 0, .int 0, .int 0, .int 0, .int 0, .int 0, .int 0, .int 0, .int 0, .int 0, .int 0, .int 0, .int 0, .int 0, .int 0]),
  (5, [.int 5, .int 0, .ref 31, .ref 32, .ref 33]),
  (100, [.int 0, .int 0, .int 0, .int 0, .int 0, .int 0, .int 0, .int 0, .int 0, .int 0, .int 0, .int 0, .int 0, .int 0, .int 0, .int 0, .int 0, .int 0, .int 0, .int 0, .int 0, .int 0, .int 0, .int 0, .int 0, .int 0, .int 0, .int 0, .int 0, .int 0, .int 0, .int 0, .int 0, .int 0, .int 0, .int 0, .int 0, .int 0, .int 0, .int 0, .int 0, .int 0, .int 0, .int 0, .int 0, .int 0, .int 0, .int 0, .int 0, .int 0, .int 0, .int 0, .int 0, .int 0, .int 0, .int 0, .int 0, .int 0, .int 0, .int 0, .int 0, .int 0, .int 0, .int 0, .int 0, .int 0, .int 0, .int 0, .int 0, .int 0, .int 0, .int 0, .int 0, .int 0, .int 0, .int 0, .int 0, .int 0, .int 0, .int 0, .int 0, .int 0, .int 0, .int 0, .int 0, .int 0, .int 0, .int 0, .int 0, .int 0, .int 0, .int 0, .int 0, .int 0, .int 0, .int 0, .int 0, .int 0, .int 0, .int 0, .int 0, .int 0, .int 0, .int 0, .int 0, .int 0, .int 0, .int 0, .int 0, .int 0, .int 0, .int 0, .int 0, .int 0, .int 0, .int 0, .int 0, .int 0, .int 0, .int 0, .int 0, .int 0, .int 0, .int 0, .int 0, .int 0, .int 0, .int 0, .int 0, .int 0, .int 0, .int 0, .int 0, .int 0, .int 0, .int 0, .int 0, .int 0, .int 0, .int 0, .int 0, .int 0, .int 0, .int 0, .int 0, .int 0, .int 0, .int 0, .int 0, .int 0, .int 0, .int 0, .int 0, .int 0, .int 0, .int 0, .int 0, .int 0, .int 0, .int 0]),
  (100, [.int 0, .int 0, .int 0]),
  (100, [.int 0, .int 0, .int 0, .int 0, .int 0, .int 0, .int 0, .int 0, .int 0, .int 0, .int 0, .int 0, .int 0, .int 0, .int 0, .int 0, .int 0, .int 0, .int 0, .int 0, .int 0, .int 0, .int 0, .int 0, .int 0, .int 0, .int 0, .int 0, .int 0, .int 0, .int 0, .int 0, .int 0, .int 0, .int 0, .int 0, .int 0, .int 0, .int 0, .int 0]),
  (2, [.int (-1), .int 0, .ref 35]),
  (100, [.int 0, .int 0, .int 0, .int 0, .int 0, .int 0, .int 0, .int 0, .int 0, .int 0, .int 0, .int 0, .int 0, .int 0, .int 0, .int 0, .int 0, .int 0, .int 0, .int 0, .int 0, .int 0, .int 0, .int 0, .int 0, .int 0, .int 0, .int 0, .int 0, .int 0, .int 0, .int 0, .int 0, .int 0, .int 0, .int 0, .int 0, .int 0, .int 0, .int 0]),
  (2, [.int (-1), .int 0, .ref 37]),
  (100, [.int 0, .int 0, .int 0, .int 0, .int 0, .int 0, .int 0, .int 0, .int 0, .int 0, .int 0, .int 0, .int 0, .int 0, .int 0, .int 0, .int 0, .int 0, .int 0, .int 0, .int 0, .int 0, .int 0, .int 0, .int 0, .int 0, .int 0, .int 0, .int 0, .int 0, .int 0, .int 0, .int 0, .int 0, .int 0, .int 0, .int 0, .int 0, .int 0, .int 0]),
  (2, [.int (-1), .int 0, .ref 39]),
  (100, [.int 0, .int 0, .int 0, .int 0, .int 0, .int 0, .int 0, .int 0, .int 0, .int 0, .int 0, .int 0, .int 0, .int 0, .int 0, .int 0, .int 0, .int 0, .int 0, .int 0, .int 0, .int 0, .int 0, .int 0, .int 0, .int 0, .int 0, .int 0, .int 0, .int 0, .int 0, .int 0, .int 0, .int 0, .int 0, .int 0, .int 0, .int 0, .int 0, .int 0]),
  (2, [.int (-1), .int 0, .ref 41]),
  (100, [.int 0, .int 0, .int 0, .int 0, .int 0, .int 0, .int 0, .int 0, .int 0, .int 0, .int 0, .int 0, .int 0, .int 0, .int 0, .int 0, .int 0, .int 0, .int 0, .int 0, .int 0, .int 0, .int 0, .int 0, .int 0, .int 0, .int 0, .int 0, .int 0, .int 0, .int 0, .int 0, .int 0, .int 0, .int 0, .int 0, .int 0, .int 0, .int 0, .int 0]),
  (1, [.ref 1, .ref 10, .int 9, .int 300, .int (-1)]),
  (3, [.int 0, .int 20, .int 0, .ref 10, .ref 44, .ref 45, .ref 46, .ref 47, .ref 56]),
  (100, [.int 0, .int 0, .int 0, .int 0, .int 0, .int 0, .int 0, .int 0]),
  (100, [.int 0, .int 0, .int 0, .int 0, .int 0, .int 0, .int 0, .int 0]),
  (100, [.int 0, .int 0, .int 0, .int 0, .int 0, .int 0, .int 0, .int 0]),
  (104, [.ref 48, .ref 49, .ref 50, .ref 51, .ref 52, .ref 53, .ref 54, .ref 55]),
  (100, [.int 0, .int 0, .int 0, .int 0, .int 0, .int 0, .int 0, .int 0]),
  (100, [.int 0, .int 0, .int 0, .int 0, .int 0, .int 0, .int 0, .int 0]),
  (100, [.int 0, .int 0, .int 0, .int 0, .int 0, .int 0, .int 0, .int 0]),
  (100, [.int 0, .int 0, .int 0, .int 0, .int 0, .int 0, .int 0, .int 0]),
  (100, [.int 0, .int 0, .int 0, .int 0, .int 0, .int 0, .int 0, .int 0]),
  (100, [.int 0, .int 0, .int 0, .int 0, .int 0, .int 0, .int 0, .int 0]),
  (100, [.int 0, .int 0, .int 0, .int 0, .int 0, .int 0, .int 0, .int 0]),
  (100, [.int 0, .int 0, .int 0, .int 0, .int 0, .int 0, .int 0, .int 0]),
  (100, [.int 0, .int 0, .int 0, .int 0, .int 0, .int 0]),
  (3, [.int 0, .int 20, .int 0, .ref 10, .ref 58, .ref 59, .ref 60, .ref 61, .ref 70]),
  (100, [.int 0, .int 0, .int 0, .int 0, .int 0, .int 0, .int 0, .int 0]),
  (100, [.int 0, .int 0, .int 0, .int 0, .int 0, .int 0, .int 0, .int 0]),
  (100, [.int 0, .int 0, .int 0, .int 0, .int 0, .int 0, .int 0, .int 0]),
  (104, [.ref 62, .ref 63, .ref 64, .ref 65, .ref 66, .ref 67, .ref 68, .ref 69]),
  (100, [.int 0, .int 0, .int 0, .int 0, .int 0, .int 0, .int 0, .int 0]),
  (100, [.int 0, .int 0, .int 0, .int 0, .int 0, .int 0, .int 0, .int 0]),
  (100, [.int 0, .int 0, .int 0, .int 0, .int 0, .int 0, .int 0, .int 0]),
  (100, [.int 0, .int 0, .int 0, .int 0, .int 0, .int 0, .int 0, .int 0]),
  (100, [.int 0, .int 0, .int 0, .int 0, .int 0, .int 0, .int 0, .int 0]),
  (100, [.int 0, .int 0, .int 0, .int 0, .int 0, .int 0, .int 0, .int 0]),
  (100, [.int 0, .int 0, .int 0, .int 0, .int 0, .int 0, .int 0, .int 0]),
  (100, [.int 0, .int 0, .int 0, .int 0, .int 0, .int 0, .int 0, .int 0]),
  (100, [.int 0, .int 0, .int 0, .int 0, .int 0, .int 0]),
  (3, [.int 0, .int 20, .int 0, .ref 10, .ref 72, .ref 73, .ref 74, .ref 75, .ref 84]),
  (100, [.int 0, .int 0, .int 0, .int 0, .int 0, .int 0, .int 0, .int 0]),
  (100, [.int 0, .int 0, .int 0, .int 0, .int 0, .int 0, .int 0, .int 0]),
  (100, [.int 0, .int 0, .int 0, .int 0, .int 0, .int 0, .int 0, .int 0]),
  (104, [.ref 76, .ref 77, .ref 78, .ref 79, .ref 80, .ref 81, .ref 82, .ref 83]),
  (100, [.int 0, .int 0, .int 0, .int 0, .int 0, .int 0, .int 0, .int 0]),
  (100, [.int 0, .int 0, .int 0, .int 0, .int 0, .int 0, .int 0, .int 0]),
  (100, [.int 0, .int 0, .int 0, .int 0, .int 0, .int 0, .int 0, .int 0]),
  (100, [.int 0, .int 0, .int 0, .int 0, .int 0, .int 0, .int 0, .int 0]),
  (100, [.int 0, .int 0, .int 0, .int 0, .int 0, .int 0, .int 0, .int 0]),
  (100, [.int 0, .int 0, .int 0, .int 0, .int 0, .int 0, .int 0, .int 0]),
  (100, [.int 0, .int 0, .int 0, .int 0, .int 0, .int 0, .int 0, .int 0]),
  (100, [.int 0, .int 0, .int 0, .int 0, .int 0, .int 0, .int 0, .int 0]),
  (100, [.int 0, .int 0, .int 0, .int 0, .int 0, .int 0])]
def chkR (r : Option (List xLf)) : Bool := match r with
  | some [(some (.int x), C, [])] => decide (x = -1) && (decide (C[11]? = xC0[11]?) && decide (C[12]? = xC0[12]?))
  | _ => false
theorem chkR_ok {r : Option (List xLf)} (h : chkR r = true) : ∃ C, r = some [(some (.int (-1)), C, [])] ∧ C[11]? = xC0[11]? ∧ C[12]? = xC0[12]? := by
  unfold chkR at h
  split at h
  · next x C =>
    simp only [Bool.and_eq_true, decide_eq_true_eq] at h
    obtain ⟨rfl, h2, h3⟩ := h
    exact ⟨C, rfl, h2, h3⟩
  · cases h
set_option maxRecDepth 100000 in
theorem xCG_ok : chkR (xexec xK 13 11 [.ref 42, .ref 10] xCG []) = true := by decide +kernel
noncomputable section
set_option maxRecDepth 100000 in
theorem xCG_d : xCG = dC shC (hOf xCG) := chkD_ok (by decide +kernel)
set_option maxRecDepth 100000 in
theorem invC_G : InvC (hOf xCG) := chk_ok (by decide +kernel) bndC0
theorem xlift_n : ∀ (n k d : Nat), xLe (xexec k d) (xexec k (d + n))
  | 0, _, _ => fun _ _ _ _ _ h => h
  | n + 1, k, d => fun j as C rg l h => xexec_lift k (d + n) j as C rg l (xlift_n n k d j as C rg l h)
theorem row_eq {g h : dH} {a n : Nat} (hq : zA shC a n) (e : (dC shC g)[a]? = (dC shC h)[a]?) {k : Nat} (hk : k < n) : g a k = h a k := by
  have hq' : shC[a]? = some (100, List.replicate n 0) := hq
  have e1 : (dC shC g)[a]? = some (100, dcell (g a) (List.replicate n 0)) := by simp [dC, hq']
  have e2 : (dC shC h)[a]? = some (100, dcell (h a) (List.replicate n 0)) := by simp [dC, hq']
  rw [e1, e2] at e
  have e3 : dcell (g a) (List.replicate n 0) = dcell (h a) (List.replicate n 0) := congrArg Prod.snd (Option.some.inj e)
  have c : ∀ f : Nat → Int32, (dcell f (List.replicate n 0))[k]? = some (.int (f k)) := fun f => by
    simp [dcell, List.getElem?_mapIdx, List.getElem?_replicate, hk, ddec]
  have e4 := (c (g a)).symm.trans ((congrArg (fun l => l[k]?) e3).trans (c (h a)))
  exact Value.int.inj (Option.some.inj e4)
theorem lf_inj {x y : Int32} {C D : List xCel} (e : (some [(some (Value.int x), C, ([] : xRG))] : Option (List xLf)) = some [(some (Value.int y), D, [])]) : x = y ∧ C = D := by
  cases e; exact ⟨rfl, rfl⟩
theorem run_eq {k1 k2 d1 d2 n j : Nat} {as : List Value} {C0 C1 C2 : List xCel} {x y : Int32} (hd : d2 = d1 + n) (h1 : xexec k1 d1 j as C0 [] = some [(some (.int x), C1, [])]) (h2 : xexec k2 d2 j as C0 [] = some [(some (.int y), C2, [])]) : x = y ∧ C1 = C2 := by
  subst hd
  have a1 := xexec_mono k1 k2 (d1 + n) _ _ _ _ _ (xlift_n n k1 d1 _ _ _ _ _ h1)
  have a2 := xexec_mono k2 k1 (d1 + n) _ _ _ _ _ h2
  rw [Nat.add_comm k2 k1] at a2
  exact lf_inj (a1.symm.trans a2)
theorem exR_f {nm f f' : Nat → Int32} : ∀ (m a : Nat) (st : List Int32), (∀ j, a ≤ j → j < a + m → f j = f' j) → exR nm f m a st = exR nm f' m a st
  | 0, _, _, _ => rfl
  | m + 1, a, st, h => by
    rw [exR, exR, h a (by omega) (by omega)]
    cases ex1 nm (f' a) st with
    | none => rfl
    | some st' => exact exR_f m (a + 1) st' (fun j x y => h j (by omega) (by omega))
theorem Sem.same3 {gC hC hM : dH} {t : Nat} (q : Sem hC hM t) (e1 : ∀ k, k < 160 → gC (10 + 4 * t + 1) k = hC (10 + 4 * t + 1) k) (e2 : ∀ k, k < 3 → gC (10 + 4 * t + 2) k = hC (10 + 4 * t + 2) k) : Sem gC hM t := by
  obtain ⟨q1, q2, q3⟩ := q
  have a : ∀ pt, pt < 3 → tA gC (10 + 4 * t) pt = tA hC (10 + 4 * t) pt := fun pt hp => by unfold tA; rw [e2 (pt - 1) (by omega)]
  have b : ∀ pt, pt < 3 → tB gC (10 + 4 * t) pt = tB hC (10 + 4 * t) pt := fun pt hp => by unfold tB; rw [e2 pt hp]
  have ev : ∀ nm pt, pt < 3 → tEv gC (10 + 4 * t) nm pt = tEv hC (10 + 4 * t) nm pt := fun nm pt hp => by
    unfold tEv
    rw [a pt hp, b pt hp]
    have k := q1 pt hp
    refine exR_f _ _ _ (fun j x y => e1 j ?_)
    unfold tB at y k
    omega
  refine ⟨fun pt hp => ?_, fun nm pt hp => by rw [ev nm pt hp]; exact q2 nm pt hp, fun h' v1 v2 o pt a1 a2 a3 a4 a5 a6 => by rw [ev _ _ a3]; exact q3 h' v1 v2 o pt a1 a2 a3 a4 a5 a6⟩
  rw [a pt hp, b pt hp, e2 pt hp]
  exact q1 pt hp
def all8 (p : Nat → Nat → Bool) : Bool := (List.range 8).all fun i => (List.range 8).all fun j => p i j
theorem all8_ok {p : Nat → Nat → Bool} (h : all8 p = true) : ∀ i j, i < 8 → j < 8 → p i j = true := fun i j hi hj => by
  unfold all8 at h
  exact List.all_eq_true.mp (List.all_eq_true.mp h i (List.mem_range.mpr hi)) j (List.mem_range.mpr hj)
set_option maxRecDepth 100000 in
theorem st0 : all8 (fun i j => decide (hOf xC0 (43 + 5 + i) j = 0)) = true := by decide +kernel
set_option maxRecDepth 100000 in
theorem bytes0 : (List.range 40).all (fun j => decide ((hOf xM0 1 j).toInt = (hOf xCG 5 j).toInt) && (decide (0 ≤ (hOf xCG 5 j).toInt) && decide ((hOf xCG 5 j).toInt ≤ 255))) = true := by decide +kernel
set_option maxRecDepth 100000 in
theorem cells0 : hOf xC0 43 0 = hOf xM0 0 7 ∧ hOf xC0 43 1 = hOf xM0 0 8 ∧ hOf xC0 43 2 = hOf xM0 0 13 ∧ hOf xC0 43 2 = 0 ∧ dtx (hOf xC0 43 3) = 10 ∧ hOf xM0 0 4 = 0 ∧ hOf xC0 0 3 = 1 ∧ hOf xM0 0 3 = 1 ∧ hOf xC0 43 0 = 0 ∧ hOf xC0 0 7 = 0 ∧ hOf xM0 0 39 = -1 ∧ hOf xC0 1 0 = 0 ∧ hOf xM0 0 6 = 0 ∧ hOf xM0 0 29 = -1 ∧ hOf xM0 0 30 = -1 ∧ hOf xM0 0 31 = -1 ∧ hOf xCG 1 0 = 40 ∧ hOf xM0 2 0 = 40 := by decide +kernel
set_option maxRecDepth 100000 in
theorem sheets0 : (List.range 4).all (fun s => decide (hOf xC0 (34 + 2 * s) 0 = -1) && decide (hOf xM0 14 s = 0)) = true := by decide +kernel
theorem Sem0 : Sem (hOf xC0) (hOf xM0) 0 := by
  obtain ⟨c1, c2, c3, c4, c5, c6, c7, c8, c9, c10, c11, c12, c13, c14, c15, c16, c17, c18⟩ := cells0
  have t40 : (40 : Int32).toInt = 40 := by decide
  have g10 : (hOf xCG 1 0).toInt = 40 := by rw [c17]; exact t40
  have hN : cN (hOf xCG) = 40 := by unfold cN; rw [g10]; rfl
  have B : ∀ j, j < 40 → (hOf xM0 1 j).toInt = (hOf xCG 5 j).toInt ∧ 0 ≤ (hOf xCG 5 j).toInt ∧ (hOf xCG 5 j).toInt ≤ 255 := fun j hj => by
    have h := List.all_eq_true.mp bytes0 j (List.mem_range.mpr hj)
    simp only [Bool.and_eq_true, decide_eq_true_eq] at h
    exact h
  obtain ⟨o, ho, -⟩ := s_X1_readInto (hOf xCG) invC_G 10 (Or.inl rfl)
  obtain ⟨k, hk⟩ := m_X1_readInto (d := 1001) (Nat.le_refl _) 10 (Or.inl rfl) (hOf xCG) o ho
  obtain ⟨C, r1, r2, r3⟩ := chkR_ok xCG_ok
  have r1' : xexec xK 13 11 [.ref 42, .ref 10] (dC shC (hOf xCG)) [] = some [(some (.int (-1)), C, [])] := (congrArg (fun c => xexec xK 13 11 [.ref 42, .ref 10] c []) xCG_d).symm.trans r1
  obtain ⟨e1, e2⟩ := run_eq (d1 := 13) (d2 := 1001) (n := 988) rfl r1' hk
  have r2' : (dC shC o.2)[11]? = (dC shC (hOf xC0))[11]? := ((congrArg (fun l : List xCel => l[11]?) e2).symm.trans r2).trans (congrArg (fun l : List xCel => l[11]?) xC0_d)
  have r3' : (dC shC o.2)[12]? = (dC shC (hOf xC0))[12]? := ((congrArg (fun l : List xCel => l[12]?) e2).symm.trans r3).trans (congrArg (fun l : List xCel => l[12]?) xC0_d)
  have S := sem_new (t := 0) (by omega) (hC := hOf xCG) (by rw [g10]; omega) (by rw [g10]; omega) (fun j hj => (B j (by rw [hN] at hj; exact hj)).2) (r := o.1) (g := o.2) ho (by rw [← e1]; decide) invM_0 ⟨by rw [c18, hN]; exact t40, fun j hj => by rw [hN] at hj; rw [show 160 * 0 + j = j by omega]; exact (B j hj).1⟩
  exact S.same3 (fun k hk => (row_eq (a := 11) (n := 160) rfl r2' hk).symm) (fun k hk => (row_eq (a := 12) (n := 3) rfl r3' hk).symm)
theorem RR0 : RR (hOf xC0) (hOf xM0) := by
  obtain ⟨c1, c2, c3, c4, c5, c6, c7, c8, c9, c10, c11, c12, c13, c14, c15, c16, c17, c18⟩ := cells0
  have tm : (-1 : Int32).toInt = -1 := by decide
  have z2 : (hOf xC0 43 2).toInt = 0 := by rw [c4]; rfl
  refine ⟨⟨c1, c2, c3, by omega, fun i hi => by omega, fun i j hi => by omega, ⟨by rw [c5, c6]; decide, by rw [c6]; decide, by rw [c6, c7]; decide⟩, by rw [c9]; decide, fun i hi => by omega, ⟨fun i j hi => ?_, fun i hi => ?_⟩, fun i j hi hj _ => of_decide_eq_true (all8_ok st0 i j hi hj)⟩, Or.inl ⟨by rw [c10]; rfl, by rw [c11]; exact tm⟩, ⟨c7.trans c8.symm, by rw [c7]; decide, by rw [c7]; decide, fun t ht => ?_⟩, ⟨c12.trans c13.symm, by rw [c12]; decide, by rw [c12]; decide, fun j hj => ?_⟩, fun s hs => Or.inl ?_, by rw [c14]; exact tm, by rw [c15]; exact tm, by rw [c16]; exact tm⟩
  · rw [z2] at hi; exact absurd hi (by decide +revert)
  · rw [z2] at hi; exact absurd hi (by decide +revert)
  · rw [c7, ti1] at ht
    have : t = 0 := by omega
    rw [this]; exact Sem0
  · rw [c12, ti0] at hj
    exact absurd hj (by omega)
  · have h := List.all_eq_true.mp sheets0 s (List.mem_range.mpr hs)
    simp only [Bool.and_eq_true, decide_eq_true_eq] at h
    rw [h.1, h.2]
    exact ⟨tm, rfl⟩
end
end

section
/-! a call of the law on one of the two objects -/
/-- both objects are there, in some state that calls can reach; the script is read at i0 -/
def lW (s : State) (b : Nat) (D : va_G) (cA : Nat → ClassId) (fm : Value) (xs : Nat → Int32) (L : Nat) (adx adm : Nat → Nat) (hC hM : dH) (i0 : Nat) (H : Heap) (locs : List Loc) (ls : Array Slot) (cells slots : Nat) : Prop :=
  va_P D vwCl (xenc cA (xv adx (fun _ => 0) fm) adx (dC shC hC)) H ∧ va_D (xGe s) (xenc cA (xv adx (fun _ => 0) fm) adx (dC shC hC)) ∧ va_P D vwCl (xenc cA (xv adm (fun _ => 0) fm) adm (dC shM hM)) H ∧ va_D (xGe s) (xenc cA (xv adm (fun _ => 0) fm) adm (dC shM hM)) ∧ (∀ i, i < shC.length → ∀ k, k < shM.length → adm k ≠ adx i) ∧ va_S (xGe s) s.heap H locs ∧ lv_has ls 4 [(3, .int (Int32.ofNat i0)), (2, .ref (adm 0)), (1, .ref (adx 0)), (0, .ref b)] ∧ va_X b L xs s s.heap ∧ b < s.heap.size ∧ cells ≤ 600000 ∧ slots ≤ 7302250 ∧ InvC hC ∧ InvM hM ∧ L ≤ 3072 ∧ RR hC hM
section XOP
variable {p : Program} {l : Launch} {e : Env} {s : State} {m : MethodId} {b : Nat} {below : List Frame} {meth : Method} {c : Code} {D : va_G} {cA : Nat → ClassId} {xa : Nat → Nat} {fm : Value} {Q : State → Prop} {H : Heap} {locs : List Loc} {ls : Array Slot} {pc cells slots : Nat} {rest : List Value}
theorem law_op (hE : lEnv p l e s m b c D cA xa fm) {sh : dSh} {ks : List Nat} {own j idx : Nat} {mi : xMI} {as' av : List Value} {h : dH} {ad ad2 : Nat → Nat} {C2 : List xCel} {α : Type} {ι : α → Option Value × dH} {t : Option α} {P : α → Prop} (hsc : sh.all (fun q => q.2.all (kdok sh.length)) = true) (hB : sh.length ≤ xB) (h0 : sh[0]? = some (own, ks)) (hj : xmi j = some mi) (hk : mi.2.2.2.2.2.2.1 = 1 ∧ mi.2.2.2.2.2.2.2.1 = 0 ∧ mi.2.2.2.2.2.2.2.2.1 = 0 ∧ mi.2.2.1 = own ∧ own < 100 ∧ mi.2.2.2.1 = as'.length + 1) (hx : dX sh 1100 j (.ref 0 :: as') ι t h) (hs : Sf t P) (hav : ∀ ad', as'.map (xv ad' (fun _ => 0) fm) = av)
    (hP : va_P D vwCl (xenc cA (xv ad (fun _ => 0) fm) ad (dC sh h)) H) (hD : va_D (xGe s) (xenc cA (xv ad (fun _ => 0) fm) ad (dC sh h))) (jP : va_P D vwCl (xenc cA (xv ad2 (fun _ => 0) fm) ad2 C2) H) (hN : ∀ i, i < sh.length → ∀ k, k < C2.length → ad2 k ≠ ad i) (hS : va_S (xGe s) s.heap H locs) (hsz : ls.size = 4) (hrest : (rest.map fun v => v.category).sum ≤ 8) (hroom : cells ≤ 600000 ∧ slots ≤ 7302250) (hdg : decode code pc = .ok (.invokevirtual idx, 3)) (hlink : Cond.methodLink RL idx mi.1 ∈ wsL_law)
    (kk : ∀ (o : α), P o → t = some o → ∀ (ad' : Nat → Nat) (H1 : Heap) (locs1 : List Loc), va_P D vwCl (xenc cA (xv ad (fun _ => 0) fm) ad (dC sh (ι o).2)) H1 → va_D (xGe s) (xenc cA (xv ad (fun _ => 0) fm) ad (dC sh (ι o).2)) → va_P D vwCl (xenc cA (xv ad2 (fun _ => 0) fm) ad2 C2) H1 → va_S (xGe s) s.heap H1 locs1 → W p l e room_1 s m #[Value.ref b] below meth c H1 locs1 cells slots Q (F0 m (pc + 3) ls (((ι o).1.map (xv ad' (fun _ => 0) fm)).toList ++ rest))) :
    W p l e room_1 s m #[Value.ref b] below meth c H locs cells slots Q (F0 m pc ls (av.reverse ++ .ref (ad 0) :: rest)) := by
  obtain ⟨o, ho, hPo⟩ := hs
  obtain ⟨k, hkx⟩ := hx o ho
  obtain ⟨k1, k2, k3, k4, k5, k6⟩ := hk
  have h0' : (dC sh h)[0]? = some (mi.2.2.1, dcell (h 0) ks) := by
    rw [k4]; simp [dC, h0]
  refine law_virt (k := k) (d := 1100) (ρ := fun _ => 0) hE (by omega) hj k1 k2 k3 hkx (dC_sc hsc h) (by rw [dC_len]; exact hB) h0' (by rw [k4]; exact k5) k6 (fun k q h => by simp at h) hP hD hS hsz hrest hroom hdg hlink hav (fun lf hlf => ?_) (fun lf hlf r1 ad' H1 locs1 w1 w2 z1 z2 z3 => ?_)
  · rw [List.mem_singleton] at hlf
    subst hlf
    exact ⟨dC_sc hsc _, by rw [dC_len, dC_len]⟩
  · rw [List.mem_singleton] at hlf
    subst hlf
    refine kk o hPo ho ad' H1 locs1 w1 w2 (jP.kept fun k q hq => ?_) z3
    obtain ⟨cq, hcq, hez⟩ := xenc_of hq
    have hkl := (List.getElem?_eq_some_iff.mp hcq).1
    have hlt := (jP k q hq).lt
    have e1 : q.1 = ad2 k := congrArg Prod.fst hez
    exact z2 q.1 hlt (fun i hi => by rw [e1]; exact hN i (by rw [dC_len] at hi; exact hi) k hkl)
theorem law_end (hr : meth.sig.returnType = ret) (hlk : meth.locks = false) (hE : lEnv p l e s m b c D cA xa fm) (hS : va_S (xGe s) s.heap H locs) (hc : cells ≤ 600000 ∧ slots ≤ 7302250) : W p l e room_1 s m #[Value.ref b] below meth c H locs cells slots (lw_Z below #[Value.ref b] s) (F0 m 1171 ls []) := by
  refine va_forget (fun q hq => hS.2.2 q hq) ?_
  refine W.widen (k := 600000) (n := 7302250) hc.1 hc.2 ?_
  refine lv_iconst hE.1 hE.2.1 dL_law_1171 rfl ?_
  exact lw_ret hE.1 hE.2.1 hr hlk dL_law_1172
end XOP
end

section
/-! each call of the law (by program) -/
section XOPS
variable {p : Program} {l : Launch} {e : Env} {s : State} {m : MethodId} {b : Nat} {below : List Frame} {meth : Method} {c : Code} {D : va_G} {cA : Nat → ClassId} {xa : Nat → Nat} {fm : Value} {xs : Nat → Int32} {L i0 : Nat} {adx adm : Nat → Nat} {hC hM : dH} {H : Heap} {locs : List Loc} {ls : Array Slot} {cells slots : Nat}
theorem xjx_set : xmi 66 = some (yX6_set, cX6_set, 6, 4, 5, 1, 1, 0, 0, xt66) := rfl
theorem xjm_set : xmi 124 = some (yX7_set, cX7_set, 7, 4, 5, 1, 1, 0, 0, xt124) := rfl
theorem lc_set (hE : lEnv p l e s m b c D cA xa fm) (hI : lW s b D cA fm xs L adx adm hC hM i0 H locs ls cells slots) (hi : i0 + 6 ≤ L) (K : ∀ (gC gM : dH) (H2 : Heap) (locs2 : List Loc), lW s b D cA fm xs L adx adm gC gM i0 H2 locs2 ls cells slots → W p l e room_1 s m #[Value.ref b] below meth c H2 locs2 cells slots (lw_Z below #[Value.ref b] s) (F0 m 1165 ls [])) : W p l e room_1 s m #[Value.ref b] below meth c H locs cells slots (lw_Z below #[Value.ref b] s) (F0 m 172 ls []) := by
  obtain ⟨iP, iD, jP, jD, iN, iS, iL, iX, ib, ic, isl, iC, iM, i3, iR⟩ := hI
  have g0 := iL.2.2 (0, .ref b) (by simp)
  have g1 := iL.2.2 (1, .ref (adx 0)) (by simp)
  have g2 := iL.2.2 (2, .ref (adm 0)) (by simp)
  have g3 := iL.2.2 (3, .int (Int32.ofNat i0)) (by simp)
  refine lv_aload_n (pc := 172) (x := adx 0) hE.1 hE.2.1 dL_law_172 rfl g1 ?_
  refine law_arg (pc := 173) hE iX i3 ib iS g0 g3 (i := 1) (by omega) (by decide) dL_law_173 dL_law_174 dL_law_175 dL_law_176 dL_law_177 ?_
  refine law_arg (pc := 178) hE iX i3 ib iS g0 g3 (i := 2) (by omega) (by decide) dL_law_178 dL_law_179 dL_law_180 dL_law_181 dL_law_182 ?_
  refine law_arg (pc := 183) hE iX i3 ib iS g0 g3 (i := 3) (by omega) (by decide) dL_law_183 dL_law_184 dL_law_185 dL_law_186 dL_law_187 ?_
  refine law_op (pc := 188) (as' := [.int (xs (i0 + 1)), .int (xs (i0 + 2)), .int (xs (i0 + 3))]) (av := [.int (xs (i0 + 1)), .int (xs (i0 + 2)), .int (xs (i0 + 3))]) (ad := adx) (ad2 := adm) (C2 := dC shM hM) hE shC_sc hbC atC0 xjx_set ⟨rfl, rfl, rfl, rfl, by decide, rfl⟩ (m_X6_set (by decide) (xs (i0 + 1)) (xs (i0 + 2)) (xs (i0 + 3)) hC) (s_X6_set hC iC (xs (i0 + 1)) (xs (i0 + 2)) (xs (i0 + 3))) (fun _ => rfl) iP iD jP (fun i hi k hk => iN i hi k (by rw [dC_len] at hk; exact hk)) iS iL.1 (by decide) ⟨ic, isl⟩ dL_law_188 (kr_12 _ (List.mem_of_getElem? (i := 1) rfl)) (fun o ho he ad1 H1 locs1 iP1 iD1 jP1 iS1 => ?_)
  refine lv_pop (pc := 191) (va := .int o.1) (rest := []) hE.1 hE.2.1 dL_law_191 rfl ?_
  refine lv_aload_n (pc := 192) (x := adm 0) (rest := []) hE.1 hE.2.1 dL_law_192 rfl g2 ?_
  refine law_arg (pc := 193) hE iX i3 ib iS1 g0 g3 (i := 1) (by omega) (by decide) dL_law_193 dL_law_194 dL_law_195 dL_law_196 dL_law_197 ?_
  refine law_arg (pc := 198) hE iX i3 ib iS1 g0 g3 (i := 2) (by omega) (by decide) dL_law_198 dL_law_199 dL_law_200 dL_law_201 dL_law_202 ?_
  refine law_arg (pc := 203) hE iX i3 ib iS1 g0 g3 (i := 3) (by omega) (by decide) dL_law_203 dL_law_204 dL_law_205 dL_law_206 dL_law_207 ?_
  refine law_op (pc := 208) (rest := []) (as' := [.int (xs (i0 + 1)), .int (xs (i0 + 2)), .int (xs (i0 + 3))]) (av := [.int (xs (i0 + 1)), .int (xs (i0 + 2)), .int (xs (i0 + 3))]) (ad := adm) (ad2 := adx) (C2 := dC shC o.2) hE shM_sc hbM atM0 xjm_set ⟨rfl, rfl, rfl, rfl, by decide, rfl⟩ (m_X7_set (by decide) (xs (i0 + 1)) (xs (i0 + 2)) (xs (i0 + 3)) hM) (s_X7_set hM iM (xs (i0 + 1)) (xs (i0 + 2)) (xs (i0 + 3))) (fun _ => rfl) jP1 jD iP1 (fun i hi k hk => (iN k (by rw [dC_len] at hk; exact hk) i hi).symm) iS1 iL.1 (by decide) ⟨ic, isl⟩ dL_law_208 (kr_12 _ (List.mem_of_getElem? (i := 20) rfl)) (fun o2 ho2 he2 ad2 H2 locs2 jP2 jD2 iP2 iS2 => ?_)
  have er := op_set iR (xs (i0 + 1)) (xs (i0 + 2)) (xs (i0 + 3)) o he o2 he2
  refine lv_pop (pc := 211) (va := .int o2.1) (rest := []) hE.1 hE.2.1 dL_law_211 rfl ?_
  refine lv_goto (pc := 212) (tgt := 1165) hE.1 hE.2.1 dL_law_212 rfl ?_
  exact K o.2 o2.2 _ _ ⟨iP2, iD1, jP2, jD2, iN, iS2, iL, iX, ib, ic, isl, ho.1, ho2.1, i3, er.2⟩
theorem xjx_house : xmi 67 = some (yX6_house, cX6_house, 6, 3, 3, 1, 1, 0, 0, xt67) := rfl
theorem xjm_house : xmi 128 = some (yX7_house, cX7_house, 7, 3, 4, 1, 1, 0, 0, xt128) := rfl
theorem lc_house (hE : lEnv p l e s m b c D cA xa fm) (hI : lW s b D cA fm xs L adx adm hC hM i0 H locs ls cells slots) (hi : i0 + 6 ≤ L) (K : ∀ (gC gM : dH) (H2 : Heap) (locs2 : List Loc), lW s b D cA fm xs L adx adm gC gM i0 H2 locs2 ls cells slots → W p l e room_1 s m #[Value.ref b] below meth c H2 locs2 cells slots (lw_Z below #[Value.ref b] s) (F0 m 1165 ls [])) : W p l e room_1 s m #[Value.ref b] below meth c H locs cells slots (lw_Z below #[Value.ref b] s) (F0 m 215 ls []) := by
  obtain ⟨iP, iD, jP, jD, iN, iS, iL, iX, ib, ic, isl, iC, iM, i3, iR⟩ := hI
  have g0 := iL.2.2 (0, .ref b) (by simp)
  have g1 := iL.2.2 (1, .ref (adx 0)) (by simp)
  have g2 := iL.2.2 (2, .ref (adm 0)) (by simp)
  have g3 := iL.2.2 (3, .int (Int32.ofNat i0)) (by simp)
  refine lv_aload_n (pc := 215) (x := adx 0) hE.1 hE.2.1 dL_law_215 rfl g1 ?_
  refine law_arg (pc := 216) hE iX i3 ib iS g0 g3 (i := 1) (by omega) (by decide) dL_law_216 dL_law_217 dL_law_218 dL_law_219 dL_law_220 ?_
  refine law_arg (pc := 221) hE iX i3 ib iS g0 g3 (i := 2) (by omega) (by decide) dL_law_221 dL_law_222 dL_law_223 dL_law_224 dL_law_225 ?_
  refine law_op (pc := 226) (as' := [.int (xs (i0 + 1)), .int (xs (i0 + 2))]) (av := [.int (xs (i0 + 1)), .int (xs (i0 + 2))]) (ad := adx) (ad2 := adm) (C2 := dC shM hM) hE shC_sc hbC atC0 xjx_house ⟨rfl, rfl, rfl, rfl, by decide, rfl⟩ (m_X6_house (by decide) (xs (i0 + 1)) (xs (i0 + 2)) hC) (s_X6_house hC iC (xs (i0 + 1)) (xs (i0 + 2))) (fun _ => rfl) iP iD jP (fun i hi k hk => iN i hi k (by rw [dC_len] at hk; exact hk)) iS iL.1 (by decide) ⟨ic, isl⟩ dL_law_226 (kr_23 _ (List.mem_of_getElem? (i := 20) rfl)) (fun o ho he ad1 H1 locs1 iP1 iD1 jP1 iS1 => ?_)
  refine lv_pop (pc := 229) (va := .int o.1) (rest := []) hE.1 hE.2.1 dL_law_229 rfl ?_
  refine lv_aload_n (pc := 230) (x := adm 0) (rest := []) hE.1 hE.2.1 dL_law_230 rfl g2 ?_
  refine law_arg (pc := 231) hE iX i3 ib iS1 g0 g3 (i := 1) (by omega) (by decide) dL_law_231 dL_law_232 dL_law_233 dL_law_234 dL_law_235 ?_
  refine law_arg (pc := 236) hE iX i3 ib iS1 g0 g3 (i := 2) (by omega) (by decide) dL_law_236 dL_law_237 dL_law_238 dL_law_239 dL_law_240 ?_
  refine law_op (pc := 241) (rest := []) (as' := [.int (xs (i0 + 1)), .int (xs (i0 + 2))]) (av := [.int (xs (i0 + 1)), .int (xs (i0 + 2))]) (ad := adm) (ad2 := adx) (C2 := dC shC o.2) hE shM_sc hbM atM0 xjm_house ⟨rfl, rfl, rfl, rfl, by decide, rfl⟩ (m_X7_house (by decide) (xs (i0 + 1)) (xs (i0 + 2)) hM) (s_X7_house hM iM (xs (i0 + 1)) (xs (i0 + 2))) (fun _ => rfl) jP1 jD iP1 (fun i hi k hk => (iN k (by rw [dC_len] at hk; exact hk) i hi).symm) iS1 iL.1 (by decide) ⟨ic, isl⟩ dL_law_241 (kr_24 _ (List.mem_of_getElem? (i := 9) rfl)) (fun o2 ho2 he2 ad2 H2 locs2 jP2 jD2 iP2 iS2 => ?_)
  have er := op_house iR (xs (i0 + 1)) (xs (i0 + 2)) o he o2 he2
  refine lv_pop (pc := 244) (va := .int o2.1) (rest := []) hE.1 hE.2.1 dL_law_244 rfl ?_
  refine lv_goto (pc := 245) (tgt := 1165) hE.1 hE.2.1 dL_law_245 rfl ?_
  exact K o.2 o2.2 _ _ ⟨iP2, iD1, jP2, jD2, iN, iS2, iL, iX, ib, ic, isl, ho.1, ho2.1, i3, er.2⟩
theorem xjx_bind : xmi 68 = some (yX6_bind, cX6_bind, 6, 4, 5, 1, 1, 0, 0, xt68) := rfl
theorem xjm_bind : xmi 130 = some (yX7_bind, cX7_bind, 7, 4, 5, 1, 1, 0, 0, xt130) := rfl
theorem lc_bind (hE : lEnv p l e s m b c D cA xa fm) (hI : lW s b D cA fm xs L adx adm hC hM i0 H locs ls cells slots) (hi : i0 + 6 ≤ L) (K : ∀ (gC gM : dH) (H2 : Heap) (locs2 : List Loc), lW s b D cA fm xs L adx adm gC gM i0 H2 locs2 ls cells slots → W p l e room_1 s m #[Value.ref b] below meth c H2 locs2 cells slots (lw_Z below #[Value.ref b] s) (F0 m 1165 ls [])) : W p l e room_1 s m #[Value.ref b] below meth c H locs cells slots (lw_Z below #[Value.ref b] s) (F0 m 248 ls []) := by
  obtain ⟨iP, iD, jP, jD, iN, iS, iL, iX, ib, ic, isl, iC, iM, i3, iR⟩ := hI
  have g0 := iL.2.2 (0, .ref b) (by simp)
  have g1 := iL.2.2 (1, .ref (adx 0)) (by simp)
  have g2 := iL.2.2 (2, .ref (adm 0)) (by simp)
  have g3 := iL.2.2 (3, .int (Int32.ofNat i0)) (by simp)
  refine lv_aload_n (pc := 248) (x := adx 0) hE.1 hE.2.1 dL_law_248 rfl g1 ?_
  refine law_arg (pc := 249) hE iX i3 ib iS g0 g3 (i := 1) (by omega) (by decide) dL_law_249 dL_law_250 dL_law_251 dL_law_252 dL_law_253 ?_
  refine law_arg (pc := 254) hE iX i3 ib iS g0 g3 (i := 2) (by omega) (by decide) dL_law_254 dL_law_255 dL_law_256 dL_law_257 dL_law_258 ?_
  refine law_arg (pc := 259) hE iX i3 ib iS g0 g3 (i := 3) (by omega) (by decide) dL_law_259 dL_law_260 dL_law_261 dL_law_262 dL_law_263 ?_
  refine law_op (pc := 264) (as' := [.int (xs (i0 + 1)), .int (xs (i0 + 2)), .int (xs (i0 + 3))]) (av := [.int (xs (i0 + 1)), .int (xs (i0 + 2)), .int (xs (i0 + 3))]) (ad := adx) (ad2 := adm) (C2 := dC shM hM) hE shC_sc hbC atC0 xjx_bind ⟨rfl, rfl, rfl, rfl, by decide, rfl⟩ (m_X6_bind (by decide) (xs (i0 + 1)) (xs (i0 + 2)) (xs (i0 + 3)) hC) (s_X6_bind hC iC (xs (i0 + 1)) (xs (i0 + 2)) (xs (i0 + 3))) (fun _ => rfl) iP iD jP (fun i hi k hk => iN i hi k (by rw [dC_len] at hk; exact hk)) iS iL.1 (by decide) ⟨ic, isl⟩ dL_law_264 (kr_24 _ (List.mem_of_getElem? (i := 18) rfl)) (fun o ho he ad1 H1 locs1 iP1 iD1 jP1 iS1 => ?_)
  refine lv_pop (pc := 267) (va := .int o.1) (rest := []) hE.1 hE.2.1 dL_law_267 rfl ?_
  refine lv_aload_n (pc := 268) (x := adm 0) (rest := []) hE.1 hE.2.1 dL_law_268 rfl g2 ?_
  refine law_arg (pc := 269) hE iX i3 ib iS1 g0 g3 (i := 1) (by omega) (by decide) dL_law_269 dL_law_270 dL_law_271 dL_law_272 dL_law_273 ?_
  refine law_arg (pc := 274) hE iX i3 ib iS1 g0 g3 (i := 2) (by omega) (by decide) dL_law_274 dL_law_275 dL_law_276 dL_law_277 dL_law_278 ?_
  refine law_arg (pc := 279) hE iX i3 ib iS1 g0 g3 (i := 3) (by omega) (by decide) dL_law_279 dL_law_280 dL_law_281 dL_law_282 dL_law_283 ?_
  refine law_op (pc := 284) (rest := []) (as' := [.int (xs (i0 + 1)), .int (xs (i0 + 2)), .int (xs (i0 + 3))]) (av := [.int (xs (i0 + 1)), .int (xs (i0 + 2)), .int (xs (i0 + 3))]) (ad := adm) (ad2 := adx) (C2 := dC shC o.2) hE shM_sc hbM atM0 xjm_bind ⟨rfl, rfl, rfl, rfl, by decide, rfl⟩ (m_X7_bind (by decide) (xs (i0 + 1)) (xs (i0 + 2)) (xs (i0 + 3)) hM) (s_X7_bind hM iM (xs (i0 + 1)) (xs (i0 + 2)) (xs (i0 + 3))) (fun _ => rfl) jP1 jD iP1 (fun i hi k hk => (iN k (by rw [dC_len] at hk; exact hk) i hi).symm) iS1 iL.1 (by decide) ⟨ic, isl⟩ dL_law_284 (kr_25 _ (List.mem_of_getElem? (i := 7) rfl)) (fun o2 ho2 he2 ad2 H2 locs2 jP2 jD2 iP2 iS2 => ?_)
  have er := op_bind iR (xs (i0 + 1)) (xs (i0 + 2)) (xs (i0 + 3)) o he o2 he2
  refine lv_pop (pc := 287) (va := .int o2.1) (rest := []) hE.1 hE.2.1 dL_law_287 rfl ?_
  refine lv_goto (pc := 288) (tgt := 1165) hE.1 hE.2.1 dL_law_288 rfl ?_
  exact K o.2 o2.2 _ _ ⟨iP2, iD1, jP2, jD2, iN, iS2, iL, iX, ib, ic, isl, ho.1, ho2.1, i3, er.2⟩
theorem xjx_told : xmi 69 = some (yX6_told, cX6_told, 6, 3, 4, 1, 1, 0, 0, xt69) := rfl
theorem xjm_told : xmi 131 = some (yX7_told, cX7_told, 7, 3, 6, 1, 1, 0, 0, xt131) := rfl
theorem lc_told (hE : lEnv p l e s m b c D cA xa fm) (hI : lW s b D cA fm xs L adx adm hC hM i0 H locs ls cells slots) (hi : i0 + 6 ≤ L) (K : ∀ (gC gM : dH) (H2 : Heap) (locs2 : List Loc), lW s b D cA fm xs L adx adm gC gM i0 H2 locs2 ls cells slots → W p l e room_1 s m #[Value.ref b] below meth c H2 locs2 cells slots (lw_Z below #[Value.ref b] s) (F0 m 1165 ls [])) : W p l e room_1 s m #[Value.ref b] below meth c H locs cells slots (lw_Z below #[Value.ref b] s) (F0 m 291 ls []) := by
  obtain ⟨iP, iD, jP, jD, iN, iS, iL, iX, ib, ic, isl, iC, iM, i3, iR⟩ := hI
  have g0 := iL.2.2 (0, .ref b) (by simp)
  have g1 := iL.2.2 (1, .ref (adx 0)) (by simp)
  have g2 := iL.2.2 (2, .ref (adm 0)) (by simp)
  have g3 := iL.2.2 (3, .int (Int32.ofNat i0)) (by simp)
  refine lv_aload_n (pc := 291) (x := adx 0) hE.1 hE.2.1 dL_law_291 rfl g1 ?_
  refine law_arg (pc := 292) hE iX i3 ib iS g0 g3 (i := 1) (by omega) (by decide) dL_law_292 dL_law_293 dL_law_294 dL_law_295 dL_law_296 ?_
  refine law_arg (pc := 297) hE iX i3 ib iS g0 g3 (i := 2) (by omega) (by decide) dL_law_297 dL_law_298 dL_law_299 dL_law_300 dL_law_301 ?_
  refine law_op (pc := 302) (as' := [.int (xs (i0 + 1)), .int (xs (i0 + 2))]) (av := [.int (xs (i0 + 1)), .int (xs (i0 + 2))]) (ad := adx) (ad2 := adm) (C2 := dC shM hM) hE shC_sc hbC atC0 xjx_told ⟨rfl, rfl, rfl, rfl, by decide, rfl⟩ (m_X6_told (by decide) (xs (i0 + 1)) (xs (i0 + 2)) hC) (s_X6_told hC iC (xs (i0 + 1)) (xs (i0 + 2))) (fun _ => rfl) iP iD jP (fun i hi k hk => iN i hi k (by rw [dC_len] at hk; exact hk)) iS iL.1 (by decide) ⟨ic, isl⟩ dL_law_302 (kr_25 _ (List.mem_of_getElem? (i := 15) rfl)) (fun o ho he ad1 H1 locs1 iP1 iD1 jP1 iS1 => ?_)
  refine lv_pop (pc := 305) (va := .int o.1) (rest := []) hE.1 hE.2.1 dL_law_305 rfl ?_
  refine lv_aload_n (pc := 306) (x := adm 0) (rest := []) hE.1 hE.2.1 dL_law_306 rfl g2 ?_
  refine law_arg (pc := 307) hE iX i3 ib iS1 g0 g3 (i := 1) (by omega) (by decide) dL_law_307 dL_law_308 dL_law_309 dL_law_310 dL_law_311 ?_
  refine law_arg (pc := 312) hE iX i3 ib iS1 g0 g3 (i := 2) (by omega) (by decide) dL_law_312 dL_law_313 dL_law_314 dL_law_315 dL_law_316 ?_
  refine law_op (pc := 317) (rest := []) (as' := [.int (xs (i0 + 1)), .int (xs (i0 + 2))]) (av := [.int (xs (i0 + 1)), .int (xs (i0 + 2))]) (ad := adm) (ad2 := adx) (C2 := dC shC o.2) hE shM_sc hbM atM0 xjm_told ⟨rfl, rfl, rfl, rfl, by decide, rfl⟩ (m_X7_told (by decide) (xs (i0 + 1)) (xs (i0 + 2)) hM) (s_X7_told hM iM (xs (i0 + 1)) (xs (i0 + 2))) (fun _ => rfl) jP1 jD iP1 (fun i hi k hk => (iN k (by rw [dC_len] at hk; exact hk) i hi).symm) iS1 iL.1 (by decide) ⟨ic, isl⟩ dL_law_317 (kr_27 _ (List.mem_of_getElem? (i := 14) rfl)) (fun o2 ho2 he2 ad2 H2 locs2 jP2 jD2 iP2 iS2 => ?_)
  have er := op_told iR (xs (i0 + 1)) (xs (i0 + 2)) o he o2 he2
  refine lv_pop (pc := 320) (va := .int o2.1) (rest := []) hE.1 hE.2.1 dL_law_320 rfl ?_
  refine lv_goto (pc := 321) (tgt := 1165) hE.1 hE.2.1 dL_law_321 rfl ?_
  exact K o.2 o2.2 _ _ ⟨iP2, iD1, jP2, jD2, iN, iS2, iL, iX, ib, ic, isl, ho.1, ho2.1, i3, er.2⟩
theorem xjx_feed : xmi 70 = some (yX6_feed, cX6_feed, 6, 2, 2, 1, 1, 0, 0, xt70) := rfl
theorem xjm_feed : xmi 133 = some (yX7_feed, cX7_feed, 7, 2, 2, 1, 1, 0, 0, xt133) := rfl
theorem lc_feed (hE : lEnv p l e s m b c D cA xa fm) (hI : lW s b D cA fm xs L adx adm hC hM i0 H locs ls cells slots) (hi : i0 + 6 ≤ L) (K : ∀ (gC gM : dH) (H2 : Heap) (locs2 : List Loc), lW s b D cA fm xs L adx adm gC gM i0 H2 locs2 ls cells slots → W p l e room_1 s m #[Value.ref b] below meth c H2 locs2 cells slots (lw_Z below #[Value.ref b] s) (F0 m 1165 ls [])) : W p l e room_1 s m #[Value.ref b] below meth c H locs cells slots (lw_Z below #[Value.ref b] s) (F0 m 324 ls []) := by
  obtain ⟨iP, iD, jP, jD, iN, iS, iL, iX, ib, ic, isl, iC, iM, i3, iR⟩ := hI
  have g0 := iL.2.2 (0, .ref b) (by simp)
  have g1 := iL.2.2 (1, .ref (adx 0)) (by simp)
  have g2 := iL.2.2 (2, .ref (adm 0)) (by simp)
  have g3 := iL.2.2 (3, .int (Int32.ofNat i0)) (by simp)
  refine lv_aload_n (pc := 324) (x := adx 0) hE.1 hE.2.1 dL_law_324 rfl g1 ?_
  refine law_arg (pc := 325) hE iX i3 ib iS g0 g3 (i := 1) (by omega) (by decide) dL_law_325 dL_law_326 dL_law_327 dL_law_328 dL_law_329 ?_
  refine law_op (pc := 330) (as' := [.int (xs (i0 + 1))]) (av := [.int (xs (i0 + 1))]) (ad := adx) (ad2 := adm) (C2 := dC shM hM) hE shC_sc hbC atC0 xjx_feed ⟨rfl, rfl, rfl, rfl, by decide, rfl⟩ (m_X6_feed (by decide) (xs (i0 + 1)) hC) (s_X6_feed hC iC (xs (i0 + 1))) (fun _ => rfl) iP iD jP (fun i hi k hk => iN i hi k (by rw [dC_len] at hk; exact hk)) iS iL.1 (by decide) ⟨ic, isl⟩ dL_law_330 (kr_27 _ (List.mem_of_getElem? (i := 15) rfl)) (fun o ho he ad1 H1 locs1 iP1 iD1 jP1 iS1 => ?_)
  refine lv_pop (pc := 333) (va := .int o.1) (rest := []) hE.1 hE.2.1 dL_law_333 rfl ?_
  refine lv_aload_n (pc := 334) (x := adm 0) (rest := []) hE.1 hE.2.1 dL_law_334 rfl g2 ?_
  refine law_arg (pc := 335) hE iX i3 ib iS1 g0 g3 (i := 1) (by omega) (by decide) dL_law_335 dL_law_336 dL_law_337 dL_law_338 dL_law_339 ?_
  refine law_op (pc := 340) (rest := []) (as' := [.int (xs (i0 + 1))]) (av := [.int (xs (i0 + 1))]) (ad := adm) (ad2 := adx) (C2 := dC shC o.2) hE shM_sc hbM atM0 xjm_feed ⟨rfl, rfl, rfl, rfl, by decide, rfl⟩ (m_X7_feed (by decide) (xs (i0 + 1)) hM) (s_X7_feed hM iM (xs (i0 + 1))) (fun _ => rfl) jP1 jD iP1 (fun i hi k hk => (iN k (by rw [dC_len] at hk; exact hk) i hi).symm) iS1 iL.1 (by decide) ⟨ic, isl⟩ dL_law_340 (kr_27 _ (List.mem_of_getElem? (i := 20) rfl)) (fun o2 ho2 he2 ad2 H2 locs2 jP2 jD2 iP2 iS2 => ?_)
  have er := op_feed iR (xs (i0 + 1)) o he o2 he2
  refine lv_pop (pc := 343) (va := .int o2.1) (rest := []) hE.1 hE.2.1 dL_law_343 rfl ?_
  refine lv_goto (pc := 344) (tgt := 1165) hE.1 hE.2.1 dL_law_344 rfl ?_
  exact K o.2 o2.2 _ _ ⟨iP2, iD1, jP2, jD2, iN, iS2, iL, iX, ib, ic, isl, ho.1, ho2.1, i3, er.2⟩
theorem xjx_text : xmi 71 = some (yX6_text, cX6_text, 6, 1, 2, 1, 1, 0, 0, xt71) := rfl
theorem xjm_text : xmi 180 = some (yX7_text, cX7_text, 7, 1, 2, 1, 1, 0, 0, xt180) := rfl
theorem lc_text (hE : lEnv p l e s m b c D cA xa fm) (hI : lW s b D cA fm xs L adx adm hC hM i0 H locs ls cells slots) (hi : i0 + 6 ≤ L) (K : ∀ (gC gM : dH) (H2 : Heap) (locs2 : List Loc), lW s b D cA fm xs L adx adm gC gM i0 H2 locs2 ls cells slots → W p l e room_1 s m #[Value.ref b] below meth c H2 locs2 cells slots (lw_Z below #[Value.ref b] s) (F0 m 1165 ls [])) : W p l e room_1 s m #[Value.ref b] below meth c H locs cells slots (lw_Z below #[Value.ref b] s) (F0 m 347 ls []) := by
  obtain ⟨iP, iD, jP, jD, iN, iS, iL, iX, ib, ic, isl, iC, iM, i3, iR⟩ := hI
  have g0 := iL.2.2 (0, .ref b) (by simp)
  have g1 := iL.2.2 (1, .ref (adx 0)) (by simp)
  have g2 := iL.2.2 (2, .ref (adm 0)) (by simp)
  have g3 := iL.2.2 (3, .int (Int32.ofNat i0)) (by simp)
  refine lv_aload_n (pc := 347) (x := adx 0) hE.1 hE.2.1 dL_law_347 rfl g1 ?_
  refine law_op (pc := 348) (as' := []) (av := []) (ad := adx) (ad2 := adm) (C2 := dC shM hM) hE shC_sc hbC atC0 xjx_text ⟨rfl, rfl, rfl, rfl, by decide, rfl⟩ (m_X6_text (by decide)  hC) (s_X6_text hC iC ) (fun _ => rfl) iP iD jP (fun i hi k hk => iN i hi k (by rw [dC_len] at hk; exact hk)) iS iL.1 (by decide) ⟨ic, isl⟩ dL_law_348 (kr_28 _ (List.mem_of_getElem? (i := 2) rfl)) (fun o ho he ad1 H1 locs1 iP1 iD1 jP1 iS1 => ?_)
  refine lv_pop (pc := 351) (va := .int o.1) (rest := []) hE.1 hE.2.1 dL_law_351 rfl ?_
  refine lv_aload_n (pc := 352) (x := adm 0) (rest := []) hE.1 hE.2.1 dL_law_352 rfl g2 ?_
  refine law_op (pc := 353) (rest := []) (as' := []) (av := []) (ad := adm) (ad2 := adx) (C2 := dC shC o.2) hE shM_sc hbM atM0 xjm_text ⟨rfl, rfl, rfl, rfl, by decide, rfl⟩ (m_X7_text (by decide)  hM) (s_X7_text hM iM ) (fun _ => rfl) jP1 jD iP1 (fun i hi k hk => (iN k (by rw [dC_len] at hk; exact hk) i hi).symm) iS1 iL.1 (by decide) ⟨ic, isl⟩ dL_law_353 (kr_28 _ (List.mem_of_getElem? (i := 6) rfl)) (fun o2 ho2 he2 ad2 H2 locs2 jP2 jD2 iP2 iS2 => ?_)
  have er := op_text iR iM  o he o2 he2
  refine lv_pop (pc := 356) (va := .int o2.1) (rest := []) hE.1 hE.2.1 dL_law_356 rfl ?_
  refine lv_goto (pc := 357) (tgt := 1165) hE.1 hE.2.1 dL_law_357 rfl ?_
  exact K o.2 o2.2 _ _ ⟨iP2, iD1, jP2, jD2, iN, iS2, iL, iX, ib, ic, isl, ho.1, ho2.1, i3, er.2⟩
theorem xjx_force : xmi 72 = some (yX6_force, cX6_force, 6, 2, 3, 1, 1, 0, 0, xt72) := rfl
theorem xjm_force : xmi 181 = some (yX7_force, cX7_force, 7, 2, 3, 1, 1, 0, 0, xt181) := rfl
theorem lc_force (hE : lEnv p l e s m b c D cA xa fm) (hI : lW s b D cA fm xs L adx adm hC hM i0 H locs ls cells slots) (hi : i0 + 6 ≤ L) (K : ∀ (gC gM : dH) (H2 : Heap) (locs2 : List Loc), lW s b D cA fm xs L adx adm gC gM i0 H2 locs2 ls cells slots → W p l e room_1 s m #[Value.ref b] below meth c H2 locs2 cells slots (lw_Z below #[Value.ref b] s) (F0 m 1165 ls [])) : W p l e room_1 s m #[Value.ref b] below meth c H locs cells slots (lw_Z below #[Value.ref b] s) (F0 m 360 ls []) := by
  obtain ⟨iP, iD, jP, jD, iN, iS, iL, iX, ib, ic, isl, iC, iM, i3, iR⟩ := hI
  have g0 := iL.2.2 (0, .ref b) (by simp)
  have g1 := iL.2.2 (1, .ref (adx 0)) (by simp)
  have g2 := iL.2.2 (2, .ref (adm 0)) (by simp)
  have g3 := iL.2.2 (3, .int (Int32.ofNat i0)) (by simp)
  refine lv_aload_n (pc := 360) (x := adx 0) hE.1 hE.2.1 dL_law_360 rfl g1 ?_
  refine law_arg (pc := 361) hE iX i3 ib iS g0 g3 (i := 1) (by omega) (by decide) dL_law_361 dL_law_362 dL_law_363 dL_law_364 dL_law_365 ?_
  refine law_op (pc := 366) (as' := [.int (xs (i0 + 1))]) (av := [.int (xs (i0 + 1))]) (ad := adx) (ad2 := adm) (C2 := dC shM hM) hE shC_sc hbC atC0 xjx_force ⟨rfl, rfl, rfl, rfl, by decide, rfl⟩ (m_X6_force (by decide) (xs (i0 + 1)) hC) (s_X6_force hC iC (xs (i0 + 1))) (fun _ => rfl) iP iD jP (fun i hi k hk => iN i hi k (by rw [dC_len] at hk; exact hk)) iS iL.1 (by decide) ⟨ic, isl⟩ dL_law_366 (kr_28 _ (List.mem_of_getElem? (i := 10) rfl)) (fun o ho he ad1 H1 locs1 iP1 iD1 jP1 iS1 => ?_)
  refine lv_pop (pc := 369) (va := .int o.1) (rest := []) hE.1 hE.2.1 dL_law_369 rfl ?_
  refine lv_aload_n (pc := 370) (x := adm 0) (rest := []) hE.1 hE.2.1 dL_law_370 rfl g2 ?_
  refine law_arg (pc := 371) hE iX i3 ib iS1 g0 g3 (i := 1) (by omega) (by decide) dL_law_371 dL_law_372 dL_law_373 dL_law_374 dL_law_375 ?_
  refine law_op (pc := 376) (rest := []) (as' := [.int (xs (i0 + 1))]) (av := [.int (xs (i0 + 1))]) (ad := adm) (ad2 := adx) (C2 := dC shC o.2) hE shM_sc hbM atM0 xjm_force ⟨rfl, rfl, rfl, rfl, by decide, rfl⟩ (m_X7_force (by decide) (xs (i0 + 1)) hM) (s_X7_force hM iM (xs (i0 + 1))) (fun _ => rfl) jP1 jD iP1 (fun i hi k hk => (iN k (by rw [dC_len] at hk; exact hk) i hi).symm) iS1 iL.1 (by decide) ⟨ic, isl⟩ dL_law_376 (kr_28 _ (List.mem_of_getElem? (i := 16) rfl)) (fun o2 ho2 he2 ad2 H2 locs2 jP2 jD2 iP2 iS2 => ?_)
  have er := op_force iR (xs (i0 + 1)) o he o2 he2
  refine lv_pop (pc := 379) (va := .int o2.1) (rest := []) hE.1 hE.2.1 dL_law_379 rfl ?_
  refine lv_goto (pc := 380) (tgt := 1165) hE.1 hE.2.1 dL_law_380 rfl ?_
  exact K o.2 o2.2 _ _ ⟨iP2, iD1, jP2, jD2, iN, iS2, iL, iX, ib, ic, isl, ho.1, ho2.1, i3, er.2⟩
theorem xjx_asks : xmi 73 = some (yX6_asks, cX6_asks, 6, 4, 4, 1, 1, 0, 0, xt73) := rfl
theorem xjm_asks : xmi 187 = some (yX7_asks, cX7_asks, 7, 4, 4, 1, 1, 0, 0, xt187) := rfl
theorem lc_asks (hE : lEnv p l e s m b c D cA xa fm) (hI : lW s b D cA fm xs L adx adm hC hM i0 H locs ls cells slots) (hi : i0 + 6 ≤ L) (K : ∀ (gC gM : dH) (H2 : Heap) (locs2 : List Loc), lW s b D cA fm xs L adx adm gC gM i0 H2 locs2 ls cells slots → W p l e room_1 s m #[Value.ref b] below meth c H2 locs2 cells slots (lw_Z below #[Value.ref b] s) (F0 m 1165 ls [])) : W p l e room_1 s m #[Value.ref b] below meth c H locs cells slots (lw_Z below #[Value.ref b] s) (F0 m 383 ls []) := by
  obtain ⟨iP, iD, jP, jD, iN, iS, iL, iX, ib, ic, isl, iC, iM, i3, iR⟩ := hI
  have g0 := iL.2.2 (0, .ref b) (by simp)
  have g1 := iL.2.2 (1, .ref (adx 0)) (by simp)
  have g2 := iL.2.2 (2, .ref (adm 0)) (by simp)
  have g3 := iL.2.2 (3, .int (Int32.ofNat i0)) (by simp)
  refine lv_aload_n (pc := 383) (x := adx 0) hE.1 hE.2.1 dL_law_383 rfl g1 ?_
  refine law_arg (pc := 384) hE iX i3 ib iS g0 g3 (i := 1) (by omega) (by decide) dL_law_384 dL_law_385 dL_law_386 dL_law_387 dL_law_388 ?_
  refine law_arg (pc := 389) hE iX i3 ib iS g0 g3 (i := 2) (by omega) (by decide) dL_law_389 dL_law_390 dL_law_391 dL_law_392 dL_law_393 ?_
  refine law_arg (pc := 394) hE iX i3 ib iS g0 g3 (i := 3) (by omega) (by decide) dL_law_394 dL_law_395 dL_law_396 dL_law_397 dL_law_398 ?_
  refine law_op (pc := 399) (as' := [.int (xs (i0 + 1)), .int (xs (i0 + 2)), .int (xs (i0 + 3))]) (av := [.int (xs (i0 + 1)), .int (xs (i0 + 2)), .int (xs (i0 + 3))]) (ad := adx) (ad2 := adm) (C2 := dC shM hM) hE shC_sc hbC atC0 xjx_asks ⟨rfl, rfl, rfl, rfl, by decide, rfl⟩ (m_X6_asks (by decide) (xs (i0 + 1)) (xs (i0 + 2)) (xs (i0 + 3)) hC) (s_X6_asks hC iC (xs (i0 + 1)) (xs (i0 + 2)) (xs (i0 + 3))) (fun _ => rfl) iP iD jP (fun i hi k hk => iN i hi k (by rw [dC_len] at hk; exact hk)) iS iL.1 (by decide) ⟨ic, isl⟩ dL_law_399 (kr_28 _ (List.mem_of_getElem? (i := 20) rfl)) (fun o ho he ad1 H1 locs1 iP1 iD1 jP1 iS1 => ?_)
  refine lv_pop (pc := 402) (va := .int o.1) (rest := []) hE.1 hE.2.1 dL_law_402 rfl ?_
  refine lv_aload_n (pc := 403) (x := adm 0) (rest := []) hE.1 hE.2.1 dL_law_403 rfl g2 ?_
  refine law_arg (pc := 404) hE iX i3 ib iS1 g0 g3 (i := 1) (by omega) (by decide) dL_law_404 dL_law_405 dL_law_406 dL_law_407 dL_law_408 ?_
  refine law_arg (pc := 409) hE iX i3 ib iS1 g0 g3 (i := 2) (by omega) (by decide) dL_law_409 dL_law_410 dL_law_411 dL_law_412 dL_law_413 ?_
  refine law_arg (pc := 414) hE iX i3 ib iS1 g0 g3 (i := 3) (by omega) (by decide) dL_law_414 dL_law_415 dL_law_416 dL_law_417 dL_law_418 ?_
  refine law_op (pc := 419) (rest := []) (as' := [.int (xs (i0 + 1)), .int (xs (i0 + 2)), .int (xs (i0 + 3))]) (av := [.int (xs (i0 + 1)), .int (xs (i0 + 2)), .int (xs (i0 + 3))]) (ad := adm) (ad2 := adx) (C2 := dC shC o.2) hE shM_sc hbM atM0 xjm_asks ⟨rfl, rfl, rfl, rfl, by decide, rfl⟩ (m_X7_asks (by decide) (xs (i0 + 1)) (xs (i0 + 2)) (xs (i0 + 3)) hM) (s_X7_asks hM iM (xs (i0 + 1)) (xs (i0 + 2)) (xs (i0 + 3))) (fun _ => rfl) jP1 jD iP1 (fun i hi k hk => (iN k (by rw [dC_len] at hk; exact hk) i hi).symm) iS1 iL.1 (by decide) ⟨ic, isl⟩ dL_law_419 (kr_29 _ (List.mem_of_getElem? (i := 11) rfl)) (fun o2 ho2 he2 ad2 H2 locs2 jP2 jD2 iP2 iS2 => ?_)
  have er := op_asks iR (xs (i0 + 1)) (xs (i0 + 2)) (xs (i0 + 3)) o he o2 he2
  refine lv_pop (pc := 422) (va := .int o2.1) (rest := []) hE.1 hE.2.1 dL_law_422 rfl ?_
  refine lv_goto (pc := 423) (tgt := 1165) hE.1 hE.2.1 dL_law_423 rfl ?_
  exact K o.2 o2.2 _ _ ⟨iP2, iD1, jP2, jD2, iN, iS2, iL, iX, ib, ic, isl, ho.1, ho2.1, i3, er.2⟩
theorem xjx_feast : xmi 74 = some (yX6_feast, cX6_feast, 6, 1, 1, 1, 1, 0, 0, xt74) := rfl
theorem xjm_feast : xmi 190 = some (yX7_feast, cX7_feast, 7, 1, 1, 1, 1, 0, 0, xt190) := rfl
theorem lc_feast (hE : lEnv p l e s m b c D cA xa fm) (hI : lW s b D cA fm xs L adx adm hC hM i0 H locs ls cells slots) (hi : i0 + 6 ≤ L) (K : ∀ (gC gM : dH) (H2 : Heap) (locs2 : List Loc), lW s b D cA fm xs L adx adm gC gM i0 H2 locs2 ls cells slots → W p l e room_1 s m #[Value.ref b] below meth c H2 locs2 cells slots (lw_Z below #[Value.ref b] s) (F0 m 1165 ls [])) : W p l e room_1 s m #[Value.ref b] below meth c H locs cells slots (lw_Z below #[Value.ref b] s) (F0 m 426 ls []) := by
  obtain ⟨iP, iD, jP, jD, iN, iS, iL, iX, ib, ic, isl, iC, iM, i3, iR⟩ := hI
  have g0 := iL.2.2 (0, .ref b) (by simp)
  have g1 := iL.2.2 (1, .ref (adx 0)) (by simp)
  have g2 := iL.2.2 (2, .ref (adm 0)) (by simp)
  have g3 := iL.2.2 (3, .int (Int32.ofNat i0)) (by simp)
  refine lv_aload_n (pc := 426) (x := adx 0) hE.1 hE.2.1 dL_law_426 rfl g1 ?_
  refine law_op (pc := 427) (as' := []) (av := []) (ad := adx) (ad2 := adm) (C2 := dC shM hM) hE shC_sc hbC atC0 xjx_feast ⟨rfl, rfl, rfl, rfl, by decide, rfl⟩ (m_X6_feast (by decide)  hC) (s_X6_feast hC iC ) (fun _ => rfl) iP iD jP (fun i hi k hk => iN i hi k (by rw [dC_len] at hk; exact hk)) iS iL.1 (by decide) ⟨ic, isl⟩ dL_law_427 (kr_29 _ (List.mem_of_getElem? (i := 23) rfl)) (fun o ho he ad1 H1 locs1 iP1 iD1 jP1 iS1 => ?_)
  refine lv_pop (pc := 430) (va := .int o.1) (rest := []) hE.1 hE.2.1 dL_law_430 rfl ?_
  refine lv_aload_n (pc := 431) (x := adm 0) (rest := []) hE.1 hE.2.1 dL_law_431 rfl g2 ?_
  refine law_op (pc := 432) (rest := []) (as' := []) (av := []) (ad := adm) (ad2 := adx) (C2 := dC shC o.2) hE shM_sc hbM atM0 xjm_feast ⟨rfl, rfl, rfl, rfl, by decide, rfl⟩ (m_X7_feast (by decide)  hM) (s_X7_feast hM iM ) (fun _ => rfl) jP1 jD iP1 (fun i hi k hk => (iN k (by rw [dC_len] at hk; exact hk) i hi).symm) iS1 iL.1 (by decide) ⟨ic, isl⟩ dL_law_432 (kr_30 _ (List.mem_of_getElem? (i := 14) rfl)) (fun o2 ho2 he2 ad2 H2 locs2 jP2 jD2 iP2 iS2 => ?_)
  have er := op_feast iR  o he o2 he2
  refine lv_pop (pc := 435) (va := .int o2.1) (rest := []) hE.1 hE.2.1 dL_law_435 rfl ?_
  refine lv_goto (pc := 436) (tgt := 1165) hE.1 hE.2.1 dL_law_436 rfl ?_
  exact K o.2 o2.2 _ _ ⟨iP2, iD1, jP2, jD2, iN, iS2, iL, iX, ib, ic, isl, ho.1, ho2.1, i3, er.2⟩
theorem xjx_year : xmi 75 = some (yX6_year, cX6_year, 6, 1, 1, 1, 1, 0, 0, xt75) := rfl
theorem xjm_year : xmi 191 = some (yX7_year, cX7_year, 7, 1, 1, 1, 1, 0, 0, xt191) := rfl
theorem lc_year (hE : lEnv p l e s m b c D cA xa fm) (hI : lW s b D cA fm xs L adx adm hC hM i0 H locs ls cells slots) (hi : i0 + 6 ≤ L) (K : ∀ (gC gM : dH) (H2 : Heap) (locs2 : List Loc), lW s b D cA fm xs L adx adm gC gM i0 H2 locs2 ls cells slots → W p l e room_1 s m #[Value.ref b] below meth c H2 locs2 cells slots (lw_Z below #[Value.ref b] s) (F0 m 1165 ls [])) : W p l e room_1 s m #[Value.ref b] below meth c H locs cells slots (lw_Z below #[Value.ref b] s) (F0 m 439 ls []) := by
  obtain ⟨iP, iD, jP, jD, iN, iS, iL, iX, ib, ic, isl, iC, iM, i3, iR⟩ := hI
  have g0 := iL.2.2 (0, .ref b) (by simp)
  have g1 := iL.2.2 (1, .ref (adx 0)) (by simp)
  have g2 := iL.2.2 (2, .ref (adm 0)) (by simp)
  have g3 := iL.2.2 (3, .int (Int32.ofNat i0)) (by simp)
  refine lv_aload_n (pc := 439) (x := adx 0) hE.1 hE.2.1 dL_law_439 rfl g1 ?_
  refine law_op (pc := 440) (as' := []) (av := []) (ad := adx) (ad2 := adm) (C2 := dC shM hM) hE shC_sc hbC atC0 xjx_year ⟨rfl, rfl, rfl, rfl, by decide, rfl⟩ (m_X6_year (by decide)  hC) (s_X6_year hC iC ) (fun _ => rfl) iP iD jP (fun i hi k hk => iN i hi k (by rw [dC_len] at hk; exact hk)) iS iL.1 (by decide) ⟨ic, isl⟩ dL_law_440 (kr_31 _ (List.mem_of_getElem? (i := 2) rfl)) (fun o ho he ad1 H1 locs1 iP1 iD1 jP1 iS1 => ?_)
  refine lv_pop (pc := 443) (va := .int o.1) (rest := []) hE.1 hE.2.1 dL_law_443 rfl ?_
  refine lv_aload_n (pc := 444) (x := adm 0) (rest := []) hE.1 hE.2.1 dL_law_444 rfl g2 ?_
  refine law_op (pc := 445) (rest := []) (as' := []) (av := []) (ad := adm) (ad2 := adx) (C2 := dC shC o.2) hE shM_sc hbM atM0 xjm_year ⟨rfl, rfl, rfl, rfl, by decide, rfl⟩ (m_X7_year (by decide)  hM) (s_X7_year hM iM ) (fun _ => rfl) jP1 jD iP1 (fun i hi k hk => (iN k (by rw [dC_len] at hk; exact hk) i hi).symm) iS1 iL.1 (by decide) ⟨ic, isl⟩ dL_law_445 (kr_31 _ (List.mem_of_getElem? (i := 12) rfl)) (fun o2 ho2 he2 ad2 H2 locs2 jP2 jD2 iP2 iS2 => ?_)
  have er := op_year iR  o he o2 he2
  refine lv_pop (pc := 448) (va := .int o2.1) (rest := []) hE.1 hE.2.1 dL_law_448 rfl ?_
  refine lv_goto (pc := 449) (tgt := 1165) hE.1 hE.2.1 dL_law_449 rfl ?_
  exact K o.2 o2.2 _ _ ⟨iP2, iD1, jP2, jD2, iN, iS2, iL, iX, ib, ic, isl, ho.1, ho2.1, i3, er.2⟩
theorem xjx_street : xmi 76 = some (yX6_street, cX6_street, 6, 2, 2, 1, 1, 0, 0, xt76) := rfl
theorem xjm_street : xmi 201 = some (yX7_street, cX7_street, 7, 2, 2, 1, 1, 0, 0, xt201) := rfl
theorem lc_street (hE : lEnv p l e s m b c D cA xa fm) (hI : lW s b D cA fm xs L adx adm hC hM i0 H locs ls cells slots) (hi : i0 + 6 ≤ L) (K : ∀ (gC gM : dH) (H2 : Heap) (locs2 : List Loc), lW s b D cA fm xs L adx adm gC gM i0 H2 locs2 ls cells slots → W p l e room_1 s m #[Value.ref b] below meth c H2 locs2 cells slots (lw_Z below #[Value.ref b] s) (F0 m 1165 ls [])) : W p l e room_1 s m #[Value.ref b] below meth c H locs cells slots (lw_Z below #[Value.ref b] s) (F0 m 452 ls []) := by
  obtain ⟨iP, iD, jP, jD, iN, iS, iL, iX, ib, ic, isl, iC, iM, i3, iR⟩ := hI
  have g0 := iL.2.2 (0, .ref b) (by simp)
  have g1 := iL.2.2 (1, .ref (adx 0)) (by simp)
  have g2 := iL.2.2 (2, .ref (adm 0)) (by simp)
  have g3 := iL.2.2 (3, .int (Int32.ofNat i0)) (by simp)
  refine lv_aload_n (pc := 452) (x := adx 0) hE.1 hE.2.1 dL_law_452 rfl g1 ?_
  refine law_arg (pc := 453) hE iX i3 ib iS g0 g3 (i := 1) (by omega) (by decide) dL_law_453 dL_law_454 dL_law_455 dL_law_456 dL_law_457 ?_
  refine law_op (pc := 458) (as' := [.int (xs (i0 + 1))]) (av := [.int (xs (i0 + 1))]) (ad := adx) (ad2 := adm) (C2 := dC shM hM) hE shC_sc hbC atC0 xjx_street ⟨rfl, rfl, rfl, rfl, by decide, rfl⟩ (m_X6_street (by decide) (xs (i0 + 1)) hC) (s_X6_street hC iC (xs (i0 + 1))) (fun _ => rfl) iP iD jP (fun i hi k hk => iN i hi k (by rw [dC_len] at hk; exact hk)) iS iL.1 (by decide) ⟨ic, isl⟩ dL_law_458 (kr_31 _ (List.mem_of_getElem? (i := 20) rfl)) (fun o ho he ad1 H1 locs1 iP1 iD1 jP1 iS1 => ?_)
  refine lv_pop (pc := 461) (va := .int o.1) (rest := []) hE.1 hE.2.1 dL_law_461 rfl ?_
  refine lv_aload_n (pc := 462) (x := adm 0) (rest := []) hE.1 hE.2.1 dL_law_462 rfl g2 ?_
  refine law_arg (pc := 463) hE iX i3 ib iS1 g0 g3 (i := 1) (by omega) (by decide) dL_law_463 dL_law_464 dL_law_465 dL_law_466 dL_law_467 ?_
  refine law_op (pc := 468) (rest := []) (as' := [.int (xs (i0 + 1))]) (av := [.int (xs (i0 + 1))]) (ad := adm) (ad2 := adx) (C2 := dC shC o.2) hE shM_sc hbM atM0 xjm_street ⟨rfl, rfl, rfl, rfl, by decide, rfl⟩ (m_X7_street (by decide) (xs (i0 + 1)) hM) (s_X7_street hM iM (xs (i0 + 1))) (fun _ => rfl) jP1 jD iP1 (fun i hi k hk => (iN k (by rw [dC_len] at hk; exact hk) i hi).symm) iS1 iL.1 (by decide) ⟨ic, isl⟩ dL_law_468 (kr_34 _ (List.mem_of_getElem? (i := 13) rfl)) (fun o2 ho2 he2 ad2 H2 locs2 jP2 jD2 iP2 iS2 => ?_)
  have er := op_street iR (xs (i0 + 1)) o he o2 he2
  refine lv_pop (pc := 471) (va := .int o2.1) (rest := []) hE.1 hE.2.1 dL_law_471 rfl ?_
  refine lv_goto (pc := 472) (tgt := 1165) hE.1 hE.2.1 dL_law_472 rfl ?_
  exact K o.2 o2.2 _ _ ⟨iP2, iD1, jP2, jD2, iN, iS2, iL, iX, ib, ic, isl, ho.1, ho2.1, i3, er.2⟩
theorem xjx_way : xmi 77 = some (yX6_way, cX6_way, 6, 3, 3, 1, 1, 0, 0, xt77) := rfl
theorem xjm_way : xmi 202 = some (yX7_way, cX7_way, 7, 3, 3, 1, 1, 0, 0, xt202) := rfl
theorem lc_way (hE : lEnv p l e s m b c D cA xa fm) (hI : lW s b D cA fm xs L adx adm hC hM i0 H locs ls cells slots) (hi : i0 + 6 ≤ L) (K : ∀ (gC gM : dH) (H2 : Heap) (locs2 : List Loc), lW s b D cA fm xs L adx adm gC gM i0 H2 locs2 ls cells slots → W p l e room_1 s m #[Value.ref b] below meth c H2 locs2 cells slots (lw_Z below #[Value.ref b] s) (F0 m 1165 ls [])) : W p l e room_1 s m #[Value.ref b] below meth c H locs cells slots (lw_Z below #[Value.ref b] s) (F0 m 475 ls []) := by
  obtain ⟨iP, iD, jP, jD, iN, iS, iL, iX, ib, ic, isl, iC, iM, i3, iR⟩ := hI
  have g0 := iL.2.2 (0, .ref b) (by simp)
  have g1 := iL.2.2 (1, .ref (adx 0)) (by simp)
  have g2 := iL.2.2 (2, .ref (adm 0)) (by simp)
  have g3 := iL.2.2 (3, .int (Int32.ofNat i0)) (by simp)
  refine lv_aload_n (pc := 475) (x := adx 0) hE.1 hE.2.1 dL_law_475 rfl g1 ?_
  refine law_arg (pc := 476) hE iX i3 ib iS g0 g3 (i := 1) (by omega) (by decide) dL_law_476 dL_law_477 dL_law_478 dL_law_479 dL_law_480 ?_
  refine law_arg (pc := 481) hE iX i3 ib iS g0 g3 (i := 2) (by omega) (by decide) dL_law_481 dL_law_482 dL_law_483 dL_law_484 dL_law_485 ?_
  refine law_op (pc := 486) (as' := [.int (xs (i0 + 1)), .int (xs (i0 + 2))]) (av := [.int (xs (i0 + 1)), .int (xs (i0 + 2))]) (ad := adx) (ad2 := adm) (C2 := dC shM hM) hE shC_sc hbC atC0 xjx_way ⟨rfl, rfl, rfl, rfl, by decide, rfl⟩ (m_X6_way (by decide) (xs (i0 + 1)) (xs (i0 + 2)) hC) (s_X6_way hC iC (xs (i0 + 1)) (xs (i0 + 2))) (fun _ => rfl) iP iD jP (fun i hi k hk => iN i hi k (by rw [dC_len] at hk; exact hk)) iS iL.1 (by decide) ⟨ic, isl⟩ dL_law_486 (kr_35 _ (List.mem_of_getElem? (i := 21) rfl)) (fun o ho he ad1 H1 locs1 iP1 iD1 jP1 iS1 => ?_)
  refine lv_pop (pc := 489) (va := .int o.1) (rest := []) hE.1 hE.2.1 dL_law_489 rfl ?_
  refine lv_aload_n (pc := 490) (x := adm 0) (rest := []) hE.1 hE.2.1 dL_law_490 rfl g2 ?_
  refine law_arg (pc := 491) hE iX i3 ib iS1 g0 g3 (i := 1) (by omega) (by decide) dL_law_491 dL_law_492 dL_law_493 dL_law_494 dL_law_495 ?_
  refine law_arg (pc := 496) hE iX i3 ib iS1 g0 g3 (i := 2) (by omega) (by decide) dL_law_496 dL_law_497 dL_law_498 dL_law_499 dL_law_500 ?_
  refine law_op (pc := 501) (rest := []) (as' := [.int (xs (i0 + 1)), .int (xs (i0 + 2))]) (av := [.int (xs (i0 + 1)), .int (xs (i0 + 2))]) (ad := adm) (ad2 := adx) (C2 := dC shC o.2) hE shM_sc hbM atM0 xjm_way ⟨rfl, rfl, rfl, rfl, by decide, rfl⟩ (m_X7_way (by decide) (xs (i0 + 1)) (xs (i0 + 2)) hM) (s_X7_way hM iM (xs (i0 + 1)) (xs (i0 + 2))) (fun _ => rfl) jP1 jD iP1 (fun i hi k hk => (iN k (by rw [dC_len] at hk; exact hk) i hi).symm) iS1 iL.1 (by decide) ⟨ic, isl⟩ dL_law_501 (kr_36 _ (List.mem_of_getElem? (i := 2) rfl)) (fun o2 ho2 he2 ad2 H2 locs2 jP2 jD2 iP2 iS2 => ?_)
  have er := op_way iR (xs (i0 + 1)) (xs (i0 + 2)) o he o2 he2
  refine lv_pop (pc := 504) (va := .int o2.1) (rest := []) hE.1 hE.2.1 dL_law_504 rfl ?_
  refine lv_goto (pc := 505) (tgt := 1165) hE.1 hE.2.1 dL_law_505 rfl ?_
  exact K o.2 o2.2 _ _ ⟨iP2, iD1, jP2, jD2, iN, iS2, iL, iX, ib, ic, isl, ho.1, ho2.1, i3, er.2⟩
theorem xjx_run : xmi 78 = some (yX6_run, cX6_run, 6, 3, 3, 1, 1, 0, 0, xt78) := rfl
theorem xjm_run : xmi 206 = some (yX7_run, cX7_run, 7, 3, 4, 1, 1, 0, 0, xt206) := rfl
theorem lc_run (hE : lEnv p l e s m b c D cA xa fm) (hI : lW s b D cA fm xs L adx adm hC hM i0 H locs ls cells slots) (hi : i0 + 6 ≤ L) (K : ∀ (gC gM : dH) (H2 : Heap) (locs2 : List Loc), lW s b D cA fm xs L adx adm gC gM i0 H2 locs2 ls cells slots → W p l e room_1 s m #[Value.ref b] below meth c H2 locs2 cells slots (lw_Z below #[Value.ref b] s) (F0 m 1165 ls [])) : W p l e room_1 s m #[Value.ref b] below meth c H locs cells slots (lw_Z below #[Value.ref b] s) (F0 m 508 ls []) := by
  obtain ⟨iP, iD, jP, jD, iN, iS, iL, iX, ib, ic, isl, iC, iM, i3, iR⟩ := hI
  have g0 := iL.2.2 (0, .ref b) (by simp)
  have g1 := iL.2.2 (1, .ref (adx 0)) (by simp)
  have g2 := iL.2.2 (2, .ref (adm 0)) (by simp)
  have g3 := iL.2.2 (3, .int (Int32.ofNat i0)) (by simp)
  refine lv_aload_n (pc := 508) (x := adx 0) hE.1 hE.2.1 dL_law_508 rfl g1 ?_
  refine law_arg (pc := 509) hE iX i3 ib iS g0 g3 (i := 1) (by omega) (by decide) dL_law_509 dL_law_510 dL_law_511 dL_law_512 dL_law_513 ?_
  refine law_arg (pc := 514) hE iX i3 ib iS g0 g3 (i := 2) (by omega) (by decide) dL_law_514 dL_law_515 dL_law_516 dL_law_517 dL_law_518 ?_
  refine law_op (pc := 519) (as' := [.int (xs (i0 + 1)), .int (xs (i0 + 2))]) (av := [.int (xs (i0 + 1)), .int (xs (i0 + 2))]) (ad := adx) (ad2 := adm) (C2 := dC shM hM) hE shC_sc hbC atC0 xjx_run ⟨rfl, rfl, rfl, rfl, by decide, rfl⟩ (m_X6_run (by decide) (xs (i0 + 1)) (xs (i0 + 2)) hC) (s_X6_run hC iC (xs (i0 + 1)) (xs (i0 + 2))) (fun _ => rfl) iP iD jP (fun i hi k hk => iN i hi k (by rw [dC_len] at hk; exact hk)) iS iL.1 (by decide) ⟨ic, isl⟩ dL_law_519 (kr_36 _ (List.mem_of_getElem? (i := 6) rfl)) (fun o ho he ad1 H1 locs1 iP1 iD1 jP1 iS1 => ?_)
  refine lv_pop (pc := 522) (va := .int o.1) (rest := []) hE.1 hE.2.1 dL_law_522 rfl ?_
  refine lv_aload_n (pc := 523) (x := adm 0) (rest := []) hE.1 hE.2.1 dL_law_523 rfl g2 ?_
  refine law_arg (pc := 524) hE iX i3 ib iS1 g0 g3 (i := 1) (by omega) (by decide) dL_law_524 dL_law_525 dL_law_526 dL_law_527 dL_law_528 ?_
  refine law_arg (pc := 529) hE iX i3 ib iS1 g0 g3 (i := 2) (by omega) (by decide) dL_law_529 dL_law_530 dL_law_531 dL_law_532 dL_law_533 ?_
  refine law_op (pc := 534) (rest := []) (as' := [.int (xs (i0 + 1)), .int (xs (i0 + 2))]) (av := [.int (xs (i0 + 1)), .int (xs (i0 + 2))]) (ad := adm) (ad2 := adx) (C2 := dC shC o.2) hE shM_sc hbM atM0 xjm_run ⟨rfl, rfl, rfl, rfl, by decide, rfl⟩ (m_X7_run (by decide) (xs (i0 + 1)) (xs (i0 + 2)) hM) (s_X7_run hM iM (xs (i0 + 1)) (xs (i0 + 2))) (fun _ => rfl) jP1 jD iP1 (fun i hi k hk => (iN k (by rw [dC_len] at hk; exact hk) i hi).symm) iS1 iL.1 (by decide) ⟨ic, isl⟩ dL_law_534 (kr_37 _ (List.mem_of_getElem? (i := 4) rfl)) (fun o2 ho2 he2 ad2 H2 locs2 jP2 jD2 iP2 iS2 => ?_)
  have er := op_run iR (xs (i0 + 1)) (xs (i0 + 2)) o he o2 he2
  refine lv_pop (pc := 537) (va := .int o2.1) (rest := []) hE.1 hE.2.1 dL_law_537 rfl ?_
  refine lv_goto (pc := 538) (tgt := 1165) hE.1 hE.2.1 dL_law_538 rfl ?_
  exact K o.2 o2.2 _ _ ⟨iP2, iD1, jP2, jD2, iN, iS2, iL, iX, ib, ic, isl, ho.1, ho2.1, i3, er.2⟩
theorem xjx_takes : xmi 79 = some (yX6_takes, cX6_takes, 6, 2, 4, 1, 1, 0, 0, xt79) := rfl
theorem xjm_takes : xmi 208 = some (yX7_takes, cX7_takes, 7, 2, 3, 1, 1, 0, 0, xt208) := rfl
theorem lc_takes (hE : lEnv p l e s m b c D cA xa fm) (hI : lW s b D cA fm xs L adx adm hC hM i0 H locs ls cells slots) (hi : i0 + 6 ≤ L) (K : ∀ (gC gM : dH) (H2 : Heap) (locs2 : List Loc), lW s b D cA fm xs L adx adm gC gM i0 H2 locs2 ls cells slots → W p l e room_1 s m #[Value.ref b] below meth c H2 locs2 cells slots (lw_Z below #[Value.ref b] s) (F0 m 1165 ls [])) : W p l e room_1 s m #[Value.ref b] below meth c H locs cells slots (lw_Z below #[Value.ref b] s) (F0 m 541 ls []) := by
  obtain ⟨iP, iD, jP, jD, iN, iS, iL, iX, ib, ic, isl, iC, iM, i3, iR⟩ := hI
  have g0 := iL.2.2 (0, .ref b) (by simp)
  have g1 := iL.2.2 (1, .ref (adx 0)) (by simp)
  have g2 := iL.2.2 (2, .ref (adm 0)) (by simp)
  have g3 := iL.2.2 (3, .int (Int32.ofNat i0)) (by simp)
  refine lv_aload_n (pc := 541) (x := adx 0) hE.1 hE.2.1 dL_law_541 rfl g1 ?_
  refine law_arg (pc := 542) hE iX i3 ib iS g0 g3 (i := 1) (by omega) (by decide) dL_law_542 dL_law_543 dL_law_544 dL_law_545 dL_law_546 ?_
  refine law_op (pc := 547) (as' := [.int (xs (i0 + 1))]) (av := [.int (xs (i0 + 1))]) (ad := adx) (ad2 := adm) (C2 := dC shM hM) hE shC_sc hbC atC0 xjx_takes ⟨rfl, rfl, rfl, rfl, by decide, rfl⟩ (m_X6_takes (by decide) (xs (i0 + 1)) hC) (s_X6_takes hC iC (xs (i0 + 1))) (fun _ => rfl) iP iD jP (fun i hi k hk => iN i hi k (by rw [dC_len] at hk; exact hk)) iS iL.1 (by decide) ⟨ic, isl⟩ dL_law_547 (kr_37 _ (List.mem_of_getElem? (i := 23) rfl)) (fun o ho he ad1 H1 locs1 iP1 iD1 jP1 iS1 => ?_)
  refine lv_pop (pc := 550) (va := .int o.1) (rest := []) hE.1 hE.2.1 dL_law_550 rfl ?_
  refine lv_aload_n (pc := 551) (x := adm 0) (rest := []) hE.1 hE.2.1 dL_law_551 rfl g2 ?_
  refine law_arg (pc := 552) hE iX i3 ib iS1 g0 g3 (i := 1) (by omega) (by decide) dL_law_552 dL_law_553 dL_law_554 dL_law_555 dL_law_556 ?_
  refine law_op (pc := 557) (rest := []) (as' := [.int (xs (i0 + 1))]) (av := [.int (xs (i0 + 1))]) (ad := adm) (ad2 := adx) (C2 := dC shC o.2) hE shM_sc hbM atM0 xjm_takes ⟨rfl, rfl, rfl, rfl, by decide, rfl⟩ (m_X7_takes (by decide) (xs (i0 + 1)) hM) (s_X7_takes hM iM (xs (i0 + 1))) (fun _ => rfl) jP1 jD iP1 (fun i hi k hk => (iN k (by rw [dC_len] at hk; exact hk) i hi).symm) iS1 iL.1 (by decide) ⟨ic, isl⟩ dL_law_557 (kr_38 _ (List.mem_of_getElem? (i := 6) rfl)) (fun o2 ho2 he2 ad2 H2 locs2 jP2 jD2 iP2 iS2 => ?_)
  have er := op_takes iR (xs (i0 + 1)) o he o2 he2
  refine lv_pop (pc := 560) (va := .int o2.1) (rest := []) hE.1 hE.2.1 dL_law_560 rfl ?_
  refine lv_goto (pc := 561) (tgt := 1165) hE.1 hE.2.1 dL_law_561 rfl ?_
  exact K o.2 o2.2 _ _ ⟨iP2, iD1, jP2, jD2, iN, iS2, iL, iX, ib, ic, isl, ho.1, ho2.1, i3, er.2⟩
theorem xjx_best : xmi 80 = some (yX6_best, cX6_best, 6, 4, 8, 1, 1, 0, 0, xt80) := rfl
theorem xjm_best : xmi 209 = some (yX7_best, cX7_best, 7, 4, 9, 1, 1, 0, 0, xt209) := rfl
theorem lc_best (hE : lEnv p l e s m b c D cA xa fm) (hI : lW s b D cA fm xs L adx adm hC hM i0 H locs ls cells slots) (hi : i0 + 6 ≤ L) (K : ∀ (gC gM : dH) (H2 : Heap) (locs2 : List Loc), lW s b D cA fm xs L adx adm gC gM i0 H2 locs2 ls cells slots → W p l e room_1 s m #[Value.ref b] below meth c H2 locs2 cells slots (lw_Z below #[Value.ref b] s) (F0 m 1165 ls [])) : W p l e room_1 s m #[Value.ref b] below meth c H locs cells slots (lw_Z below #[Value.ref b] s) (F0 m 564 ls []) := by
  obtain ⟨iP, iD, jP, jD, iN, iS, iL, iX, ib, ic, isl, iC, iM, i3, iR⟩ := hI
  have g0 := iL.2.2 (0, .ref b) (by simp)
  have g1 := iL.2.2 (1, .ref (adx 0)) (by simp)
  have g2 := iL.2.2 (2, .ref (adm 0)) (by simp)
  have g3 := iL.2.2 (3, .int (Int32.ofNat i0)) (by simp)
  refine lv_aload_n (pc := 564) (x := adx 0) hE.1 hE.2.1 dL_law_564 rfl g1 ?_
  refine law_arg (pc := 565) hE iX i3 ib iS g0 g3 (i := 1) (by omega) (by decide) dL_law_565 dL_law_566 dL_law_567 dL_law_568 dL_law_569 ?_
  refine law_arg (pc := 570) hE iX i3 ib iS g0 g3 (i := 2) (by omega) (by decide) dL_law_570 dL_law_571 dL_law_572 dL_law_573 dL_law_574 ?_
  refine law_arg (pc := 575) hE iX i3 ib iS g0 g3 (i := 3) (by omega) (by decide) dL_law_575 dL_law_576 dL_law_577 dL_law_578 dL_law_579 ?_
  refine law_op (pc := 580) (as' := [.int (xs (i0 + 1)), .int (xs (i0 + 2)), .int (xs (i0 + 3))]) (av := [.int (xs (i0 + 1)), .int (xs (i0 + 2)), .int (xs (i0 + 3))]) (ad := adx) (ad2 := adm) (C2 := dC shM hM) hE shC_sc hbC atC0 xjx_best ⟨rfl, rfl, rfl, rfl, by decide, rfl⟩ (m_X6_best (by decide) (xs (i0 + 1)) (xs (i0 + 2)) (xs (i0 + 3)) hC) (s_X6_best hC iC (xs (i0 + 1)) (xs (i0 + 2)) (xs (i0 + 3))) (fun _ => rfl) iP iD jP (fun i hi k hk => iN i hi k (by rw [dC_len] at hk; exact hk)) iS iL.1 (by decide) ⟨ic, isl⟩ dL_law_580 (kr_38 _ (List.mem_of_getElem? (i := 11) rfl)) (fun o ho he ad1 H1 locs1 iP1 iD1 jP1 iS1 => ?_)
  refine lv_pop (pc := 583) (va := .int o.1) (rest := []) hE.1 hE.2.1 dL_law_583 rfl ?_
  refine lv_aload_n (pc := 584) (x := adm 0) (rest := []) hE.1 hE.2.1 dL_law_584 rfl g2 ?_
  refine law_arg (pc := 585) hE iX i3 ib iS1 g0 g3 (i := 1) (by omega) (by decide) dL_law_585 dL_law_586 dL_law_587 dL_law_588 dL_law_589 ?_
  refine law_arg (pc := 590) hE iX i3 ib iS1 g0 g3 (i := 2) (by omega) (by decide) dL_law_590 dL_law_591 dL_law_592 dL_law_593 dL_law_594 ?_
  refine law_arg (pc := 595) hE iX i3 ib iS1 g0 g3 (i := 3) (by omega) (by decide) dL_law_595 dL_law_596 dL_law_597 dL_law_598 dL_law_599 ?_
  refine law_op (pc := 600) (rest := []) (as' := [.int (xs (i0 + 1)), .int (xs (i0 + 2)), .int (xs (i0 + 3))]) (av := [.int (xs (i0 + 1)), .int (xs (i0 + 2)), .int (xs (i0 + 3))]) (ad := adm) (ad2 := adx) (C2 := dC shC o.2) hE shM_sc hbM atM0 xjm_best ⟨rfl, rfl, rfl, rfl, by decide, rfl⟩ (m_X7_best (by decide) (xs (i0 + 1)) (xs (i0 + 2)) (xs (i0 + 3)) hM) (s_X7_best hM iM (xs (i0 + 1)) (xs (i0 + 2)) (xs (i0 + 3))) (fun _ => rfl) jP1 jD iP1 (fun i hi k hk => (iN k (by rw [dC_len] at hk; exact hk) i hi).symm) iS1 iL.1 (by decide) ⟨ic, isl⟩ dL_law_600 (kr_38 _ (List.mem_of_getElem? (i := 15) rfl)) (fun o2 ho2 he2 ad2 H2 locs2 jP2 jD2 iP2 iS2 => ?_)
  have er := op_best iR (xs (i0 + 1)) (xs (i0 + 2)) (xs (i0 + 3)) o he o2 he2
  refine lv_pop (pc := 603) (va := .int o2.1) (rest := []) hE.1 hE.2.1 dL_law_603 rfl ?_
  refine lv_goto (pc := 604) (tgt := 1165) hE.1 hE.2.1 dL_law_604 rfl ?_
  exact K o.2 o2.2 _ _ ⟨iP2, iD1, jP2, jD2, iN, iS2, iL, iX, ib, ic, isl, ho.1, ho2.1, i3, er.2⟩
theorem xjx_change : xmi 81 = some (yX6_change, cX6_change, 6, 3, 8, 1, 1, 0, 0, xt81) := rfl
theorem xjm_change : xmi 210 = some (yX7_change, cX7_change, 7, 3, 10, 1, 1, 0, 0, xt210) := rfl
theorem lc_change (hE : lEnv p l e s m b c D cA xa fm) (hI : lW s b D cA fm xs L adx adm hC hM i0 H locs ls cells slots) (hi : i0 + 6 ≤ L) (K : ∀ (gC gM : dH) (H2 : Heap) (locs2 : List Loc), lW s b D cA fm xs L adx adm gC gM i0 H2 locs2 ls cells slots → W p l e room_1 s m #[Value.ref b] below meth c H2 locs2 cells slots (lw_Z below #[Value.ref b] s) (F0 m 1165 ls [])) : W p l e room_1 s m #[Value.ref b] below meth c H locs cells slots (lw_Z below #[Value.ref b] s) (F0 m 607 ls []) := by
  obtain ⟨iP, iD, jP, jD, iN, iS, iL, iX, ib, ic, isl, iC, iM, i3, iR⟩ := hI
  have g0 := iL.2.2 (0, .ref b) (by simp)
  have g1 := iL.2.2 (1, .ref (adx 0)) (by simp)
  have g2 := iL.2.2 (2, .ref (adm 0)) (by simp)
  have g3 := iL.2.2 (3, .int (Int32.ofNat i0)) (by simp)
  refine lv_aload_n (pc := 607) (x := adx 0) hE.1 hE.2.1 dL_law_607 rfl g1 ?_
  refine law_arg (pc := 608) hE iX i3 ib iS g0 g3 (i := 1) (by omega) (by decide) dL_law_608 dL_law_609 dL_law_610 dL_law_611 dL_law_612 ?_
  refine law_arg (pc := 613) hE iX i3 ib iS g0 g3 (i := 2) (by omega) (by decide) dL_law_613 dL_law_614 dL_law_615 dL_law_616 dL_law_617 ?_
  refine law_op (pc := 618) (as' := [.int (xs (i0 + 1)), .int (xs (i0 + 2))]) (av := [.int (xs (i0 + 1)), .int (xs (i0 + 2))]) (ad := adx) (ad2 := adm) (C2 := dC shM hM) hE shC_sc hbC atC0 xjx_change ⟨rfl, rfl, rfl, rfl, by decide, rfl⟩ (m_X6_change (by decide) (xs (i0 + 1)) (xs (i0 + 2)) hC) (s_X6_change hC iC (xs (i0 + 1)) (xs (i0 + 2))) (fun _ => rfl) iP iD jP (fun i hi k hk => iN i hi k (by rw [dC_len] at hk; exact hk)) iS iL.1 (by decide) ⟨ic, isl⟩ dL_law_618 (kr_38 _ (List.mem_of_getElem? (i := 23) rfl)) (fun o ho he ad1 H1 locs1 iP1 iD1 jP1 iS1 => ?_)
  refine lv_pop (pc := 621) (va := .int o.1) (rest := []) hE.1 hE.2.1 dL_law_621 rfl ?_
  refine lv_aload_n (pc := 622) (x := adm 0) (rest := []) hE.1 hE.2.1 dL_law_622 rfl g2 ?_
  refine law_arg (pc := 623) hE iX i3 ib iS1 g0 g3 (i := 1) (by omega) (by decide) dL_law_623 dL_law_624 dL_law_625 dL_law_626 dL_law_627 ?_
  refine law_arg (pc := 628) hE iX i3 ib iS1 g0 g3 (i := 2) (by omega) (by decide) dL_law_628 dL_law_629 dL_law_630 dL_law_631 dL_law_632 ?_
  refine law_op (pc := 633) (rest := []) (as' := [.int (xs (i0 + 1)), .int (xs (i0 + 2))]) (av := [.int (xs (i0 + 1)), .int (xs (i0 + 2))]) (ad := adm) (ad2 := adx) (C2 := dC shC o.2) hE shM_sc hbM atM0 xjm_change ⟨rfl, rfl, rfl, rfl, by decide, rfl⟩ (m_X7_change (by decide) (xs (i0 + 1)) (xs (i0 + 2)) hM) (s_X7_change hM iM (xs (i0 + 1)) (xs (i0 + 2))) (fun _ => rfl) jP1 jD iP1 (fun i hi k hk => (iN k (by rw [dC_len] at hk; exact hk) i hi).symm) iS1 iL.1 (by decide) ⟨ic, isl⟩ dL_law_633 (kr_39 _ (List.mem_of_getElem? (i := 7) rfl)) (fun o2 ho2 he2 ad2 H2 locs2 jP2 jD2 iP2 iS2 => ?_)
  have er := op_change iR (xs (i0 + 1)) (xs (i0 + 2)) o he o2 he2
  refine lv_pop (pc := 636) (va := .int o2.1) (rest := []) hE.1 hE.2.1 dL_law_636 rfl ?_
  refine lv_goto (pc := 637) (tgt := 1165) hE.1 hE.2.1 dL_law_637 rfl ?_
  exact K o.2 o2.2 _ _ ⟨iP2, iD1, jP2, jD2, iN, iS2, iL, iX, ib, ic, isl, ho.1, ho2.1, i3, er.2⟩
theorem xjx_split : xmi 82 = some (yX6_split, cX6_split, 6, 3, 8, 1, 1, 0, 0, xt82) := rfl
theorem xjm_split : xmi 213 = some (yX7_split, cX7_split, 7, 3, 7, 1, 1, 0, 0, xt213) := rfl
theorem lc_split (hE : lEnv p l e s m b c D cA xa fm) (hI : lW s b D cA fm xs L adx adm hC hM i0 H locs ls cells slots) (hi : i0 + 6 ≤ L) (K : ∀ (gC gM : dH) (H2 : Heap) (locs2 : List Loc), lW s b D cA fm xs L adx adm gC gM i0 H2 locs2 ls cells slots → W p l e room_1 s m #[Value.ref b] below meth c H2 locs2 cells slots (lw_Z below #[Value.ref b] s) (F0 m 1165 ls [])) : W p l e room_1 s m #[Value.ref b] below meth c H locs cells slots (lw_Z below #[Value.ref b] s) (F0 m 640 ls []) := by
  obtain ⟨iP, iD, jP, jD, iN, iS, iL, iX, ib, ic, isl, iC, iM, i3, iR⟩ := hI
  have g0 := iL.2.2 (0, .ref b) (by simp)
  have g1 := iL.2.2 (1, .ref (adx 0)) (by simp)
  have g2 := iL.2.2 (2, .ref (adm 0)) (by simp)
  have g3 := iL.2.2 (3, .int (Int32.ofNat i0)) (by simp)
  refine lv_aload_n (pc := 640) (x := adx 0) hE.1 hE.2.1 dL_law_640 rfl g1 ?_
  refine law_arg (pc := 641) hE iX i3 ib iS g0 g3 (i := 1) (by omega) (by decide) dL_law_641 dL_law_642 dL_law_643 dL_law_644 dL_law_645 ?_
  refine law_arg (pc := 646) hE iX i3 ib iS g0 g3 (i := 2) (by omega) (by decide) dL_law_646 dL_law_647 dL_law_648 dL_law_649 dL_law_650 ?_
  refine law_op (pc := 651) (as' := [.int (xs (i0 + 1)), .int (xs (i0 + 2))]) (av := [.int (xs (i0 + 1)), .int (xs (i0 + 2))]) (ad := adx) (ad2 := adm) (C2 := dC shM hM) hE shC_sc hbC atC0 xjx_split ⟨rfl, rfl, rfl, rfl, by decide, rfl⟩ (m_X6_split (by decide) (xs (i0 + 1)) (xs (i0 + 2)) hC) (s_X6_split hC iC (xs (i0 + 1)) (xs (i0 + 2))) (fun _ => rfl) iP iD jP (fun i hi k hk => iN i hi k (by rw [dC_len] at hk; exact hk)) iS iL.1 (by decide) ⟨ic, isl⟩ dL_law_651 (kr_39 _ (List.mem_of_getElem? (i := 11) rfl)) (fun o ho he ad1 H1 locs1 iP1 iD1 jP1 iS1 => ?_)
  refine lv_pop (pc := 654) (va := .int o.1) (rest := []) hE.1 hE.2.1 dL_law_654 rfl ?_
  refine lv_aload_n (pc := 655) (x := adm 0) (rest := []) hE.1 hE.2.1 dL_law_655 rfl g2 ?_
  refine law_arg (pc := 656) hE iX i3 ib iS1 g0 g3 (i := 1) (by omega) (by decide) dL_law_656 dL_law_657 dL_law_658 dL_law_659 dL_law_660 ?_
  refine law_arg (pc := 661) hE iX i3 ib iS1 g0 g3 (i := 2) (by omega) (by decide) dL_law_661 dL_law_662 dL_law_663 dL_law_664 dL_law_665 ?_
  refine law_op (pc := 666) (rest := []) (as' := [.int (xs (i0 + 1)), .int (xs (i0 + 2))]) (av := [.int (xs (i0 + 1)), .int (xs (i0 + 2))]) (ad := adm) (ad2 := adx) (C2 := dC shC o.2) hE shM_sc hbM atM0 xjm_split ⟨rfl, rfl, rfl, rfl, by decide, rfl⟩ (m_X7_split (by decide) (xs (i0 + 1)) (xs (i0 + 2)) hM) (s_X7_split hM iM (xs (i0 + 1)) (xs (i0 + 2))) (fun _ => rfl) jP1 jD iP1 (fun i hi k hk => (iN k (by rw [dC_len] at hk; exact hk) i hi).symm) iS1 iL.1 (by decide) ⟨ic, isl⟩ dL_law_666 (kr_39 _ (List.mem_of_getElem? (i := 15) rfl)) (fun o2 ho2 he2 ad2 H2 locs2 jP2 jD2 iP2 iS2 => ?_)
  have er := op_split iR (xs (i0 + 1)) (xs (i0 + 2)) o he o2 he2
  refine lv_pop (pc := 669) (va := .int o2.1) (rest := []) hE.1 hE.2.1 dL_law_669 rfl ?_
  refine lv_goto (pc := 670) (tgt := 1165) hE.1 hE.2.1 dL_law_670 rfl ?_
  exact K o.2 o2.2 _ _ ⟨iP2, iD1, jP2, jD2, iN, iS2, iL, iX, ib, ic, isl, ho.1, ho2.1, i3, er.2⟩
theorem xjx_missed : xmi 83 = some (yX6_missed, cX6_missed, 6, 2, 6, 1, 1, 0, 0, xt83) := rfl
theorem xjm_missed : xmi 214 = some (yX7_missed, cX7_missed, 7, 2, 6, 1, 1, 0, 0, xt214) := rfl
theorem lc_missed (hE : lEnv p l e s m b c D cA xa fm) (hI : lW s b D cA fm xs L adx adm hC hM i0 H locs ls cells slots) (hi : i0 + 6 ≤ L) (K : ∀ (gC gM : dH) (H2 : Heap) (locs2 : List Loc), lW s b D cA fm xs L adx adm gC gM i0 H2 locs2 ls cells slots → W p l e room_1 s m #[Value.ref b] below meth c H2 locs2 cells slots (lw_Z below #[Value.ref b] s) (F0 m 1165 ls [])) : W p l e room_1 s m #[Value.ref b] below meth c H locs cells slots (lw_Z below #[Value.ref b] s) (F0 m 673 ls []) := by
  obtain ⟨iP, iD, jP, jD, iN, iS, iL, iX, ib, ic, isl, iC, iM, i3, iR⟩ := hI
  have g0 := iL.2.2 (0, .ref b) (by simp)
  have g1 := iL.2.2 (1, .ref (adx 0)) (by simp)
  have g2 := iL.2.2 (2, .ref (adm 0)) (by simp)
  have g3 := iL.2.2 (3, .int (Int32.ofNat i0)) (by simp)
  refine lv_aload_n (pc := 673) (x := adx 0) hE.1 hE.2.1 dL_law_673 rfl g1 ?_
  refine law_arg (pc := 674) hE iX i3 ib iS g0 g3 (i := 1) (by omega) (by decide) dL_law_674 dL_law_675 dL_law_676 dL_law_677 dL_law_678 ?_
  refine law_op (pc := 679) (as' := [.int (xs (i0 + 1))]) (av := [.int (xs (i0 + 1))]) (ad := adx) (ad2 := adm) (C2 := dC shM hM) hE shC_sc hbC atC0 xjx_missed ⟨rfl, rfl, rfl, rfl, by decide, rfl⟩ (m_X6_missed (by decide) (xs (i0 + 1)) hC) (s_X6_missed hC iC (xs (i0 + 1))) (fun _ => rfl) iP iD jP (fun i hi k hk => iN i hi k (by rw [dC_len] at hk; exact hk)) iS iL.1 (by decide) ⟨ic, isl⟩ dL_law_679 (kr_40 _ (List.mem_of_getElem? (i := 4) rfl)) (fun o ho he ad1 H1 locs1 iP1 iD1 jP1 iS1 => ?_)
  refine lv_pop (pc := 682) (va := .int o.1) (rest := []) hE.1 hE.2.1 dL_law_682 rfl ?_
  refine lv_aload_n (pc := 683) (x := adm 0) (rest := []) hE.1 hE.2.1 dL_law_683 rfl g2 ?_
  refine law_arg (pc := 684) hE iX i3 ib iS1 g0 g3 (i := 1) (by omega) (by decide) dL_law_684 dL_law_685 dL_law_686 dL_law_687 dL_law_688 ?_
  refine law_op (pc := 689) (rest := []) (as' := [.int (xs (i0 + 1))]) (av := [.int (xs (i0 + 1))]) (ad := adm) (ad2 := adx) (C2 := dC shC o.2) hE shM_sc hbM atM0 xjm_missed ⟨rfl, rfl, rfl, rfl, by decide, rfl⟩ (m_X7_missed (by decide) (xs (i0 + 1)) hM) (s_X7_missed hM iM (xs (i0 + 1))) (fun _ => rfl) jP1 jD iP1 (fun i hi k hk => (iN k (by rw [dC_len] at hk; exact hk) i hi).symm) iS1 iL.1 (by decide) ⟨ic, isl⟩ dL_law_689 (kr_40 _ (List.mem_of_getElem? (i := 8) rfl)) (fun o2 ho2 he2 ad2 H2 locs2 jP2 jD2 iP2 iS2 => ?_)
  have er := op_missed iR (xs (i0 + 1)) o he o2 he2
  refine lv_pop (pc := 692) (va := .int o2.1) (rest := []) hE.1 hE.2.1 dL_law_692 rfl ?_
  refine lv_goto (pc := 693) (tgt := 1165) hE.1 hE.2.1 dL_law_693 rfl ?_
  exact K o.2 o2.2 _ _ ⟨iP2, iD1, jP2, jD2, iN, iS2, iL, iX, ib, ic, isl, ho.1, ho2.1, i3, er.2⟩
theorem xjx_match : xmi 84 = some (yX6_match, cX6_match, 6, 2, 7, 1, 1, 0, 0, xt84) := rfl
theorem xjm_match : xmi 215 = some (yX7_match, cX7_match, 7, 2, 7, 1, 1, 0, 0, xt215) := rfl
theorem lc_match (hE : lEnv p l e s m b c D cA xa fm) (hI : lW s b D cA fm xs L adx adm hC hM i0 H locs ls cells slots) (hi : i0 + 6 ≤ L) (K : ∀ (gC gM : dH) (H2 : Heap) (locs2 : List Loc), lW s b D cA fm xs L adx adm gC gM i0 H2 locs2 ls cells slots → W p l e room_1 s m #[Value.ref b] below meth c H2 locs2 cells slots (lw_Z below #[Value.ref b] s) (F0 m 1165 ls [])) : W p l e room_1 s m #[Value.ref b] below meth c H locs cells slots (lw_Z below #[Value.ref b] s) (F0 m 696 ls []) := by
  obtain ⟨iP, iD, jP, jD, iN, iS, iL, iX, ib, ic, isl, iC, iM, i3, iR⟩ := hI
  have g0 := iL.2.2 (0, .ref b) (by simp)
  have g1 := iL.2.2 (1, .ref (adx 0)) (by simp)
  have g2 := iL.2.2 (2, .ref (adm 0)) (by simp)
  have g3 := iL.2.2 (3, .int (Int32.ofNat i0)) (by simp)
  refine lv_aload_n (pc := 696) (x := adx 0) hE.1 hE.2.1 dL_law_696 rfl g1 ?_
  refine law_arg (pc := 697) hE iX i3 ib iS g0 g3 (i := 1) (by omega) (by decide) dL_law_697 dL_law_698 dL_law_699 dL_law_700 dL_law_701 ?_
  refine law_op (pc := 702) (as' := [.int (xs (i0 + 1))]) (av := [.int (xs (i0 + 1))]) (ad := adx) (ad2 := adm) (C2 := dC shM hM) hE shC_sc hbC atC0 xjx_match ⟨rfl, rfl, rfl, rfl, by decide, rfl⟩ (m_X6_match (by decide) (xs (i0 + 1)) hC) (s_X6_match hC iC (xs (i0 + 1))) (fun _ => rfl) iP iD jP (fun i hi k hk => iN i hi k (by rw [dC_len] at hk; exact hk)) iS iL.1 (by decide) ⟨ic, isl⟩ dL_law_702 (kr_40 _ (List.mem_of_getElem? (i := 12) rfl)) (fun o ho he ad1 H1 locs1 iP1 iD1 jP1 iS1 => ?_)
  refine lv_pop (pc := 705) (va := .int o.1) (rest := []) hE.1 hE.2.1 dL_law_705 rfl ?_
  refine lv_aload_n (pc := 706) (x := adm 0) (rest := []) hE.1 hE.2.1 dL_law_706 rfl g2 ?_
  refine law_arg (pc := 707) hE iX i3 ib iS1 g0 g3 (i := 1) (by omega) (by decide) dL_law_707 dL_law_708 dL_law_709 dL_law_710 dL_law_711 ?_
  refine law_op (pc := 712) (rest := []) (as' := [.int (xs (i0 + 1))]) (av := [.int (xs (i0 + 1))]) (ad := adm) (ad2 := adx) (C2 := dC shC o.2) hE shM_sc hbM atM0 xjm_match ⟨rfl, rfl, rfl, rfl, by decide, rfl⟩ (m_X7_match (by decide) (xs (i0 + 1)) hM) (s_X7_match hM iM (xs (i0 + 1))) (fun _ => rfl) jP1 jD iP1 (fun i hi k hk => (iN k (by rw [dC_len] at hk; exact hk) i hi).symm) iS1 iL.1 (by decide) ⟨ic, isl⟩ dL_law_712 (kr_40 _ (List.mem_of_getElem? (i := 21) rfl)) (fun o2 ho2 he2 ad2 H2 locs2 jP2 jD2 iP2 iS2 => ?_)
  have er := op_match iR (xs (i0 + 1)) o he o2 he2
  refine lv_pop (pc := 715) (va := .int o2.1) (rest := []) hE.1 hE.2.1 dL_law_715 rfl ?_
  refine lv_goto (pc := 716) (tgt := 1165) hE.1 hE.2.1 dL_law_716 rfl ?_
  exact K o.2 o2.2 _ _ ⟨iP2, iD1, jP2, jD2, iN, iS2, iL, iX, ib, ic, isl, ho.1, ho2.1, i3, er.2⟩
theorem xjx_tells : xmi 85 = some (yX6_tells, cX6_tells, 6, 4, 5, 1, 1, 0, 0, xt85) := rfl
theorem xjm_tells : xmi 218 = some (yX7_tells, cX7_tells, 7, 4, 9, 1, 1, 0, 0, xt218) := rfl
theorem lc_tells (hE : lEnv p l e s m b c D cA xa fm) (hI : lW s b D cA fm xs L adx adm hC hM i0 H locs ls cells slots) (hi : i0 + 6 ≤ L) (K : ∀ (gC gM : dH) (H2 : Heap) (locs2 : List Loc), lW s b D cA fm xs L adx adm gC gM i0 H2 locs2 ls cells slots → W p l e room_1 s m #[Value.ref b] below meth c H2 locs2 cells slots (lw_Z below #[Value.ref b] s) (F0 m 1165 ls [])) : W p l e room_1 s m #[Value.ref b] below meth c H locs cells slots (lw_Z below #[Value.ref b] s) (F0 m 719 ls []) := by
  obtain ⟨iP, iD, jP, jD, iN, iS, iL, iX, ib, ic, isl, iC, iM, i3, iR⟩ := hI
  have g0 := iL.2.2 (0, .ref b) (by simp)
  have g1 := iL.2.2 (1, .ref (adx 0)) (by simp)
  have g2 := iL.2.2 (2, .ref (adm 0)) (by simp)
  have g3 := iL.2.2 (3, .int (Int32.ofNat i0)) (by simp)
  refine lv_aload_n (pc := 719) (x := adx 0) hE.1 hE.2.1 dL_law_719 rfl g1 ?_
  refine law_arg (pc := 720) hE iX i3 ib iS g0 g3 (i := 1) (by omega) (by decide) dL_law_720 dL_law_721 dL_law_722 dL_law_723 dL_law_724 ?_
  refine law_arg (pc := 725) hE iX i3 ib iS g0 g3 (i := 2) (by omega) (by decide) dL_law_725 dL_law_726 dL_law_727 dL_law_728 dL_law_729 ?_
  refine law_arg (pc := 730) hE iX i3 ib iS g0 g3 (i := 3) (by omega) (by decide) dL_law_730 dL_law_731 dL_law_732 dL_law_733 dL_law_734 ?_
  refine law_op (pc := 735) (as' := [.int (xs (i0 + 1)), .int (xs (i0 + 2)), .int (xs (i0 + 3))]) (av := [.int (xs (i0 + 1)), .int (xs (i0 + 2)), .int (xs (i0 + 3))]) (ad := adx) (ad2 := adm) (C2 := dC shM hM) hE shC_sc hbC atC0 xjx_tells ⟨rfl, rfl, rfl, rfl, by decide, rfl⟩ (m_X6_tells (by decide) (xs (i0 + 1)) (xs (i0 + 2)) (xs (i0 + 3)) hC) (s_X6_tells hC iC (xs (i0 + 1)) (xs (i0 + 2)) (xs (i0 + 3))) (fun _ => rfl) iP iD jP (fun i hi k hk => iN i hi k (by rw [dC_len] at hk; exact hk)) iS iL.1 (by decide) ⟨ic, isl⟩ dL_law_735 (kr_41 _ (List.mem_of_getElem? (i := 1) rfl)) (fun o ho he ad1 H1 locs1 iP1 iD1 jP1 iS1 => ?_)
  refine lv_pop (pc := 738) (va := .int o.1) (rest := []) hE.1 hE.2.1 dL_law_738 rfl ?_
  refine lv_aload_n (pc := 739) (x := adm 0) (rest := []) hE.1 hE.2.1 dL_law_739 rfl g2 ?_
  refine law_arg (pc := 740) hE iX i3 ib iS1 g0 g3 (i := 1) (by omega) (by decide) dL_law_740 dL_law_741 dL_law_742 dL_law_743 dL_law_744 ?_
  refine law_arg (pc := 745) hE iX i3 ib iS1 g0 g3 (i := 2) (by omega) (by decide) dL_law_745 dL_law_746 dL_law_747 dL_law_748 dL_law_749 ?_
  refine law_arg (pc := 750) hE iX i3 ib iS1 g0 g3 (i := 3) (by omega) (by decide) dL_law_750 dL_law_751 dL_law_752 dL_law_753 dL_law_754 ?_
  refine law_op (pc := 755) (rest := []) (as' := [.int (xs (i0 + 1)), .int (xs (i0 + 2)), .int (xs (i0 + 3))]) (av := [.int (xs (i0 + 1)), .int (xs (i0 + 2)), .int (xs (i0 + 3))]) (ad := adm) (ad2 := adx) (C2 := dC shC o.2) hE shM_sc hbM atM0 xjm_tells ⟨rfl, rfl, rfl, rfl, by decide, rfl⟩ (m_X7_tells (by decide) (xs (i0 + 1)) (xs (i0 + 2)) (xs (i0 + 3)) hM) (s_X7_tells hM iM (xs (i0 + 1)) (xs (i0 + 2)) (xs (i0 + 3))) (fun _ => rfl) jP1 jD iP1 (fun i hi k hk => (iN k (by rw [dC_len] at hk; exact hk) i hi).symm) iS1 iL.1 (by decide) ⟨ic, isl⟩ dL_law_755 (kr_42 _ (List.mem_of_getElem? (i := 23) rfl)) (fun o2 ho2 he2 ad2 H2 locs2 jP2 jD2 iP2 iS2 => ?_)
  have er := op_tells iR (xs (i0 + 1)) (xs (i0 + 2)) (xs (i0 + 3)) o he o2 he2
  refine lv_pop (pc := 758) (va := .int o2.1) (rest := []) hE.1 hE.2.1 dL_law_758 rfl ?_
  refine lv_goto (pc := 759) (tgt := 1165) hE.1 hE.2.1 dL_law_759 rfl ?_
  exact K o.2 o2.2 _ _ ⟨iP2, iD1, jP2, jD2, iN, iS2, iL, iX, ib, ic, isl, ho.1, ho2.1, i3, er⟩
theorem xjx_film : xmi 86 = some (yX6_film, cX6_film, 6, 3, 5, 1, 1, 0, 0, xt86) := rfl
theorem xjm_film : xmi 219 = some (yX7_film, cX7_film, 7, 3, 4, 1, 1, 0, 0, xt219) := rfl
theorem lc_film (hE : lEnv p l e s m b c D cA xa fm) (hI : lW s b D cA fm xs L adx adm hC hM i0 H locs ls cells slots) (hi : i0 + 6 ≤ L) (K : ∀ (gC gM : dH) (H2 : Heap) (locs2 : List Loc), lW s b D cA fm xs L adx adm gC gM i0 H2 locs2 ls cells slots → W p l e room_1 s m #[Value.ref b] below meth c H2 locs2 cells slots (lw_Z below #[Value.ref b] s) (F0 m 1165 ls [])) : W p l e room_1 s m #[Value.ref b] below meth c H locs cells slots (lw_Z below #[Value.ref b] s) (F0 m 762 ls []) := by
  obtain ⟨iP, iD, jP, jD, iN, iS, iL, iX, ib, ic, isl, iC, iM, i3, iR⟩ := hI
  have g0 := iL.2.2 (0, .ref b) (by simp)
  have g1 := iL.2.2 (1, .ref (adx 0)) (by simp)
  have g2 := iL.2.2 (2, .ref (adm 0)) (by simp)
  have g3 := iL.2.2 (3, .int (Int32.ofNat i0)) (by simp)
  refine lv_aload_n (pc := 762) (x := adx 0) hE.1 hE.2.1 dL_law_762 rfl g1 ?_
  refine law_arg (pc := 763) hE iX i3 ib iS g0 g3 (i := 1) (by omega) (by decide) dL_law_763 dL_law_764 dL_law_765 dL_law_766 dL_law_767 ?_
  refine law_arg (pc := 768) hE iX i3 ib iS g0 g3 (i := 2) (by omega) (by decide) dL_law_768 dL_law_769 dL_law_770 dL_law_771 dL_law_772 ?_
  refine law_op (pc := 773) (as' := [.int (xs (i0 + 1)), .int (xs (i0 + 2))]) (av := [.int (xs (i0 + 1)), .int (xs (i0 + 2))]) (ad := adx) (ad2 := adm) (C2 := dC shM hM) hE shC_sc hbC atC0 xjx_film ⟨rfl, rfl, rfl, rfl, by decide, rfl⟩ (m_X6_film (by decide) (xs (i0 + 1)) (xs (i0 + 2)) hC) (s_X6_film hC iC (xs (i0 + 1)) (xs (i0 + 2))) (fun _ => rfl) iP iD jP (fun i hi k hk => iN i hi k (by rw [dC_len] at hk; exact hk)) iS iL.1 (by decide) ⟨ic, isl⟩ dL_law_773 (kr_43 _ (List.mem_of_getElem? (i := 15) rfl)) (fun o ho he ad1 H1 locs1 iP1 iD1 jP1 iS1 => ?_)
  refine lv_pop (pc := 776) (va := .int o.1) (rest := []) hE.1 hE.2.1 dL_law_776 rfl ?_
  refine lv_aload_n (pc := 777) (x := adm 0) (rest := []) hE.1 hE.2.1 dL_law_777 rfl g2 ?_
  refine law_arg (pc := 778) hE iX i3 ib iS1 g0 g3 (i := 1) (by omega) (by decide) dL_law_778 dL_law_779 dL_law_780 dL_law_781 dL_law_782 ?_
  refine law_arg (pc := 783) hE iX i3 ib iS1 g0 g3 (i := 2) (by omega) (by decide) dL_law_783 dL_law_784 dL_law_785 dL_law_786 dL_law_787 ?_
  refine law_op (pc := 788) (rest := []) (as' := [.int (xs (i0 + 1)), .int (xs (i0 + 2))]) (av := [.int (xs (i0 + 1)), .int (xs (i0 + 2))]) (ad := adm) (ad2 := adx) (C2 := dC shC o.2) hE shM_sc hbM atM0 xjm_film ⟨rfl, rfl, rfl, rfl, by decide, rfl⟩ (m_X7_film (by decide) (xs (i0 + 1)) (xs (i0 + 2)) hM) (s_X7_film hM iM (xs (i0 + 1)) (xs (i0 + 2))) (fun _ => rfl) jP1 jD iP1 (fun i hi k hk => (iN k (by rw [dC_len] at hk; exact hk) i hi).symm) iS1 iL.1 (by decide) ⟨ic, isl⟩ dL_law_788 (kr_44 _ (List.mem_of_getElem? (i := 3) rfl)) (fun o2 ho2 he2 ad2 H2 locs2 jP2 jD2 iP2 iS2 => ?_)
  have er := op_film iR (xs (i0 + 1)) (xs (i0 + 2)) o he o2 he2
  refine lv_pop (pc := 791) (va := .int o2.1) (rest := []) hE.1 hE.2.1 dL_law_791 rfl ?_
  refine lv_goto (pc := 792) (tgt := 1165) hE.1 hE.2.1 dL_law_792 rfl ?_
  exact K o.2 o2.2 _ _ ⟨iP2, iD1, jP2, jD2, iN, iS2, iL, iX, ib, ic, isl, ho.1, ho2.1, i3, er.2⟩
theorem xjx_drawn : xmi 87 = some (yX6_drawn, cX6_drawn, 6, 3, 3, 1, 1, 0, 0, xt87) := rfl
theorem xjm_drawn : xmi 221 = some (yX7_drawn, cX7_drawn, 7, 3, 3, 1, 1, 0, 0, xt221) := rfl
theorem lc_drawn (hE : lEnv p l e s m b c D cA xa fm) (hI : lW s b D cA fm xs L adx adm hC hM i0 H locs ls cells slots) (hi : i0 + 6 ≤ L) (K : ∀ (gC gM : dH) (H2 : Heap) (locs2 : List Loc), lW s b D cA fm xs L adx adm gC gM i0 H2 locs2 ls cells slots → W p l e room_1 s m #[Value.ref b] below meth c H2 locs2 cells slots (lw_Z below #[Value.ref b] s) (F0 m 1165 ls [])) : W p l e room_1 s m #[Value.ref b] below meth c H locs cells slots (lw_Z below #[Value.ref b] s) (F0 m 795 ls []) := by
  obtain ⟨iP, iD, jP, jD, iN, iS, iL, iX, ib, ic, isl, iC, iM, i3, iR⟩ := hI
  have g0 := iL.2.2 (0, .ref b) (by simp)
  have g1 := iL.2.2 (1, .ref (adx 0)) (by simp)
  have g2 := iL.2.2 (2, .ref (adm 0)) (by simp)
  have g3 := iL.2.2 (3, .int (Int32.ofNat i0)) (by simp)
  refine lv_aload_n (pc := 795) (x := adx 0) hE.1 hE.2.1 dL_law_795 rfl g1 ?_
  refine law_arg (pc := 796) hE iX i3 ib iS g0 g3 (i := 1) (by omega) (by decide) dL_law_796 dL_law_797 dL_law_798 dL_law_799 dL_law_800 ?_
  refine law_arg (pc := 801) hE iX i3 ib iS g0 g3 (i := 2) (by omega) (by decide) dL_law_801 dL_law_802 dL_law_803 dL_law_804 dL_law_805 ?_
  refine law_op (pc := 806) (as' := [.int (xs (i0 + 1)), .int (xs (i0 + 2))]) (av := [.int (xs (i0 + 1)), .int (xs (i0 + 2))]) (ad := adx) (ad2 := adm) (C2 := dC shM hM) hE shC_sc hbC atC0 xjx_drawn ⟨rfl, rfl, rfl, rfl, by decide, rfl⟩ (m_X6_drawn (by decide) (xs (i0 + 1)) (xs (i0 + 2)) hC) (s_X6_drawn hC iC (xs (i0 + 1)) (xs (i0 + 2))) (fun _ => rfl) iP iD jP (fun i hi k hk => iN i hi k (by rw [dC_len] at hk; exact hk)) iS iL.1 (by decide) ⟨ic, isl⟩ dL_law_806 (kr_44 _ (List.mem_of_getElem? (i := 11) rfl)) (fun o ho he ad1 H1 locs1 iP1 iD1 jP1 iS1 => ?_)
  refine lv_pop (pc := 809) (va := .int o.1) (rest := []) hE.1 hE.2.1 dL_law_809 rfl ?_
  refine lv_aload_n (pc := 810) (x := adm 0) (rest := []) hE.1 hE.2.1 dL_law_810 rfl g2 ?_
  refine law_arg (pc := 811) hE iX i3 ib iS1 g0 g3 (i := 1) (by omega) (by decide) dL_law_811 dL_law_812 dL_law_813 dL_law_814 dL_law_815 ?_
  refine law_arg (pc := 816) hE iX i3 ib iS1 g0 g3 (i := 2) (by omega) (by decide) dL_law_816 dL_law_817 dL_law_818 dL_law_819 dL_law_820 ?_
  refine law_op (pc := 821) (rest := []) (as' := [.int (xs (i0 + 1)), .int (xs (i0 + 2))]) (av := [.int (xs (i0 + 1)), .int (xs (i0 + 2))]) (ad := adm) (ad2 := adx) (C2 := dC shC o.2) hE shM_sc hbM atM0 xjm_drawn ⟨rfl, rfl, rfl, rfl, by decide, rfl⟩ (m_X7_drawn (by decide) (xs (i0 + 1)) (xs (i0 + 2)) hM) (s_X7_drawn hM iM (xs (i0 + 1)) (xs (i0 + 2))) (fun _ => rfl) jP1 jD iP1 (fun i hi k hk => (iN k (by rw [dC_len] at hk; exact hk) i hi).symm) iS1 iL.1 (by decide) ⟨ic, isl⟩ dL_law_821 (kr_44 _ (List.mem_of_getElem? (i := 20) rfl)) (fun o2 ho2 he2 ad2 H2 locs2 jP2 jD2 iP2 iS2 => ?_)
  have er := op_drawn iR (xs (i0 + 1)) (xs (i0 + 2)) o he o2 he2
  refine lv_pop (pc := 824) (va := .int o2.1) (rest := []) hE.1 hE.2.1 dL_law_824 rfl ?_
  refine lv_goto (pc := 825) (tgt := 1165) hE.1 hE.2.1 dL_law_825 rfl ?_
  exact K o.2 o2.2 _ _ ⟨iP2, iD1, jP2, jD2, iN, iS2, iL, iX, ib, ic, isl, ho.1, ho2.1, i3, er.2⟩
theorem xjx_chance : xmi 88 = some (yX6_chance, cX6_chance, 6, 5, 7, 2, 1, 0, 0, xt88) := rfl
theorem xjm_chance : xmi 222 = some (yX7_chance, cX7_chance, 7, 5, 13, 2, 1, 0, 0, xt222) := rfl
theorem lc_chance (hE : lEnv p l e s m b c D cA xa fm) (hI : lW s b D cA fm xs L adx adm hC hM i0 H locs ls cells slots) (hi : i0 + 6 ≤ L) (K : ∀ (gC gM : dH) (H2 : Heap) (locs2 : List Loc), lW s b D cA fm xs L adx adm gC gM i0 H2 locs2 ls cells slots → W p l e room_1 s m #[Value.ref b] below meth c H2 locs2 cells slots (lw_Z below #[Value.ref b] s) (F0 m 1165 ls [])) : W p l e room_1 s m #[Value.ref b] below meth c H locs cells slots (lw_Z below #[Value.ref b] s) (F0 m 828 ls []) := by
  obtain ⟨iP, iD, jP, jD, iN, iS, iL, iX, ib, ic, isl, iC, iM, i3, iR⟩ := hI
  have g0 := iL.2.2 (0, .ref b) (by simp)
  have g1 := iL.2.2 (1, .ref (adx 0)) (by simp)
  have g2 := iL.2.2 (2, .ref (adm 0)) (by simp)
  have g3 := iL.2.2 (3, .int (Int32.ofNat i0)) (by simp)
  refine lv_aload_n (pc := 828) (x := adx 0) hE.1 hE.2.1 dL_law_828 rfl g1 ?_
  refine law_arg (pc := 829) hE iX i3 ib iS g0 g3 (i := 1) (by omega) (by decide) dL_law_829 dL_law_830 dL_law_831 dL_law_832 dL_law_833 ?_
  refine law_arg (pc := 834) hE iX i3 ib iS g0 g3 (i := 2) (by omega) (by decide) dL_law_834 dL_law_835 dL_law_836 dL_law_837 dL_law_838 ?_
  refine law_arg (pc := 839) hE iX i3 ib iS g0 g3 (i := 3) (by omega) (by decide) dL_law_839 dL_law_840 dL_law_841 dL_law_842 dL_law_843 ?_
  refine law_arg (pc := 844) hE iX i3 ib iS g0 g3 (i := 4) (by omega) (by decide) dL_law_844 dL_law_845 dL_law_846 dL_law_847 dL_law_848 ?_
  refine law_op (pc := 849) (as' := [.int (xs (i0 + 1)), .int (xs (i0 + 2)), .int (xs (i0 + 3)), .int (xs (i0 + 4))]) (av := [.int (xs (i0 + 1)), .int (xs (i0 + 2)), .int (xs (i0 + 3)), .int (xs (i0 + 4))]) (ad := adx) (ad2 := adm) (C2 := dC shM hM) hE shC_sc hbC atC0 xjx_chance ⟨rfl, rfl, rfl, rfl, by decide, rfl⟩ (m_X6_chance (by decide) (xs (i0 + 1)) (xs (i0 + 2)) (xs (i0 + 3)) (xs (i0 + 4)) hC) (s_X6_chance hC iC (xs (i0 + 1)) (xs (i0 + 2)) (xs (i0 + 3)) (xs (i0 + 4))) (fun _ => rfl) iP iD jP (fun i hi k hk => iN i hi k (by rw [dC_len] at hk; exact hk)) iS iL.1 (by decide) ⟨ic, isl⟩ dL_law_849 (kr_45 _ (List.mem_of_getElem? (i := 5) rfl)) (fun o ho he ad1 H1 locs1 iP1 iD1 jP1 iS1 => ?_)
  refine lv_pop2_2 (pc := 852) (va := .long o.1) (rest := []) hE.1 hE.2.1 dL_law_852 rfl ?_
  refine lv_aload_n (pc := 853) (x := adm 0) (rest := []) hE.1 hE.2.1 dL_law_853 rfl g2 ?_
  refine law_arg (pc := 854) hE iX i3 ib iS1 g0 g3 (i := 1) (by omega) (by decide) dL_law_854 dL_law_855 dL_law_856 dL_law_857 dL_law_858 ?_
  refine law_arg (pc := 859) hE iX i3 ib iS1 g0 g3 (i := 2) (by omega) (by decide) dL_law_859 dL_law_860 dL_law_861 dL_law_862 dL_law_863 ?_
  refine law_arg (pc := 864) hE iX i3 ib iS1 g0 g3 (i := 3) (by omega) (by decide) dL_law_864 dL_law_865 dL_law_866 dL_law_867 dL_law_868 ?_
  refine law_arg (pc := 869) hE iX i3 ib iS1 g0 g3 (i := 4) (by omega) (by decide) dL_law_869 dL_law_870 dL_law_871 dL_law_872 dL_law_873 ?_
  refine law_op (pc := 874) (rest := []) (as' := [.int (xs (i0 + 1)), .int (xs (i0 + 2)), .int (xs (i0 + 3)), .int (xs (i0 + 4))]) (av := [.int (xs (i0 + 1)), .int (xs (i0 + 2)), .int (xs (i0 + 3)), .int (xs (i0 + 4))]) (ad := adm) (ad2 := adx) (C2 := dC shC o.2) hE shM_sc hbM atM0 xjm_chance ⟨rfl, rfl, rfl, rfl, by decide, rfl⟩ (m_X7_chance (by decide) (xs (i0 + 1)) (xs (i0 + 2)) (xs (i0 + 3)) (xs (i0 + 4)) hM) (s_X7_chance hM iM (xs (i0 + 1)) (xs (i0 + 2)) (xs (i0 + 3)) (xs (i0 + 4))) (fun _ => rfl) jP1 jD iP1 (fun i hi k hk => (iN k (by rw [dC_len] at hk; exact hk) i hi).symm) iS1 iL.1 (by decide) ⟨ic, isl⟩ dL_law_874 (kr_45 _ (List.mem_of_getElem? (i := 14) rfl)) (fun o2 ho2 he2 ad2 H2 locs2 jP2 jD2 iP2 iS2 => ?_)
  have er := op_chance iR (xs (i0 + 1)) (xs (i0 + 2)) (xs (i0 + 3)) (xs (i0 + 4)) o he o2 he2
  refine lv_pop2_2 (pc := 877) (va := .long o2.1) (rest := []) hE.1 hE.2.1 dL_law_877 rfl ?_
  refine lv_goto (pc := 878) (tgt := 1165) hE.1 hE.2.1 dL_law_878 rfl ?_
  exact K o.2 o2.2 _ _ ⟨iP2, iD1, jP2, jD2, iN, iS2, iL, iX, ib, ic, isl, ho.1, ho2.1, i3, er.2⟩
theorem xjx_image : xmi 89 = some (yX6_image, cX6_image, 6, 1, 1, 1, 1, 0, 0, xt89) := rfl
theorem xjm_image : xmi 223 = some (yX7_image, cX7_image, 7, 1, 2, 1, 1, 0, 0, xt223) := rfl
theorem lc_image (hE : lEnv p l e s m b c D cA xa fm) (hI : lW s b D cA fm xs L adx adm hC hM i0 H locs ls cells slots) (hi : i0 + 6 ≤ L) (K : ∀ (gC gM : dH) (H2 : Heap) (locs2 : List Loc), lW s b D cA fm xs L adx adm gC gM i0 H2 locs2 ls cells slots → W p l e room_1 s m #[Value.ref b] below meth c H2 locs2 cells slots (lw_Z below #[Value.ref b] s) (F0 m 1165 ls [])) : W p l e room_1 s m #[Value.ref b] below meth c H locs cells slots (lw_Z below #[Value.ref b] s) (F0 m 881 ls []) := by
  obtain ⟨iP, iD, jP, jD, iN, iS, iL, iX, ib, ic, isl, iC, iM, i3, iR⟩ := hI
  have g0 := iL.2.2 (0, .ref b) (by simp)
  have g1 := iL.2.2 (1, .ref (adx 0)) (by simp)
  have g2 := iL.2.2 (2, .ref (adm 0)) (by simp)
  have g3 := iL.2.2 (3, .int (Int32.ofNat i0)) (by simp)
  refine lv_aload_n (pc := 881) (x := adx 0) hE.1 hE.2.1 dL_law_881 rfl g1 ?_
  refine law_op (pc := 882) (as' := []) (av := []) (ad := adx) (ad2 := adm) (C2 := dC shM hM) hE shC_sc hbC atC0 xjx_image ⟨rfl, rfl, rfl, rfl, by decide, rfl⟩ (m_X6_image (by decide)  hC) (s_X6_image hC iC ) (fun _ => rfl) iP iD jP (fun i hi k hk => iN i hi k (by rw [dC_len] at hk; exact hk)) iS iL.1 (by decide) ⟨ic, isl⟩ dL_law_882 (kr_45 _ (List.mem_of_getElem? (i := 19) rfl)) (fun o ho he ad1 H1 locs1 iP1 iD1 jP1 iS1 => ?_)
  refine lv_pop (pc := 885) (va := .int o.1) (rest := []) hE.1 hE.2.1 dL_law_885 rfl ?_
  refine lv_aload_n (pc := 886) (x := adm 0) (rest := []) hE.1 hE.2.1 dL_law_886 rfl g2 ?_
  refine law_op (pc := 887) (rest := []) (as' := []) (av := []) (ad := adm) (ad2 := adx) (C2 := dC shC o.2) hE shM_sc hbM atM0 xjm_image ⟨rfl, rfl, rfl, rfl, by decide, rfl⟩ (m_X7_image (by decide)  hM) (s_X7_image hM iM ) (fun _ => rfl) jP1 jD iP1 (fun i hi k hk => (iN k (by rw [dC_len] at hk; exact hk) i hi).symm) iS1 iL.1 (by decide) ⟨ic, isl⟩ dL_law_887 (kr_46 _ (List.mem_of_getElem? (i := 0) rfl)) (fun o2 ho2 he2 ad2 H2 locs2 jP2 jD2 iP2 iS2 => ?_)
  have er := op_image iR  o he o2 he2
  refine lv_pop (pc := 890) (va := .int o2.1) (rest := []) hE.1 hE.2.1 dL_law_890 rfl ?_
  refine lv_goto (pc := 891) (tgt := 1165) hE.1 hE.2.1 dL_law_891 rfl ?_
  exact K o.2 o2.2 _ _ ⟨iP2, iD1, jP2, jD2, iN, iS2, iL, iX, ib, ic, isl, ho.1, ho2.1, i3, er.2⟩
theorem xjx_back : xmi 90 = some (yX6_back, cX6_back, 6, 1, 1, 1, 1, 0, 0, xt90) := rfl
theorem xjm_back : xmi 224 = some (yX7_back, cX7_back, 7, 1, 2, 1, 1, 0, 0, xt224) := rfl
theorem lc_back (hE : lEnv p l e s m b c D cA xa fm) (hI : lW s b D cA fm xs L adx adm hC hM i0 H locs ls cells slots) (hi : i0 + 6 ≤ L) (K : ∀ (gC gM : dH) (H2 : Heap) (locs2 : List Loc), lW s b D cA fm xs L adx adm gC gM i0 H2 locs2 ls cells slots → W p l e room_1 s m #[Value.ref b] below meth c H2 locs2 cells slots (lw_Z below #[Value.ref b] s) (F0 m 1165 ls [])) : W p l e room_1 s m #[Value.ref b] below meth c H locs cells slots (lw_Z below #[Value.ref b] s) (F0 m 894 ls []) := by
  obtain ⟨iP, iD, jP, jD, iN, iS, iL, iX, ib, ic, isl, iC, iM, i3, iR⟩ := hI
  have g0 := iL.2.2 (0, .ref b) (by simp)
  have g1 := iL.2.2 (1, .ref (adx 0)) (by simp)
  have g2 := iL.2.2 (2, .ref (adm 0)) (by simp)
  have g3 := iL.2.2 (3, .int (Int32.ofNat i0)) (by simp)
  refine lv_aload_n (pc := 894) (x := adx 0) hE.1 hE.2.1 dL_law_894 rfl g1 ?_
  refine law_op (pc := 895) (as' := []) (av := []) (ad := adx) (ad2 := adm) (C2 := dC shM hM) hE shC_sc hbC atC0 xjx_back ⟨rfl, rfl, rfl, rfl, by decide, rfl⟩ (m_X6_back (by decide)  hC) (s_X6_back hC iC ) (fun _ => rfl) iP iD jP (fun i hi k hk => iN i hi k (by rw [dC_len] at hk; exact hk)) iS iL.1 (by decide) ⟨ic, isl⟩ dL_law_895 (kr_46 _ (List.mem_of_getElem? (i := 7) rfl)) (fun o ho he ad1 H1 locs1 iP1 iD1 jP1 iS1 => ?_)
  refine lv_pop (pc := 898) (va := .int o.1) (rest := []) hE.1 hE.2.1 dL_law_898 rfl ?_
  refine lv_aload_n (pc := 899) (x := adm 0) (rest := []) hE.1 hE.2.1 dL_law_899 rfl g2 ?_
  refine law_op (pc := 900) (rest := []) (as' := []) (av := []) (ad := adm) (ad2 := adx) (C2 := dC shC o.2) hE shM_sc hbM atM0 xjm_back ⟨rfl, rfl, rfl, rfl, by decide, rfl⟩ (m_X7_back (by decide)  hM) (s_X7_back hM iM ) (fun _ => rfl) jP1 jD iP1 (fun i hi k hk => (iN k (by rw [dC_len] at hk; exact hk) i hi).symm) iS1 iL.1 (by decide) ⟨ic, isl⟩ dL_law_900 (kr_46 _ (List.mem_of_getElem? (i := 11) rfl)) (fun o2 ho2 he2 ad2 H2 locs2 jP2 jD2 iP2 iS2 => ?_)
  have er := op_back iR  o he o2 he2
  refine lv_pop (pc := 903) (va := .int o2.1) (rest := []) hE.1 hE.2.1 dL_law_903 rfl ?_
  refine lv_goto (pc := 904) (tgt := 1165) hE.1 hE.2.1 dL_law_904 rfl ?_
  exact K o.2 o2.2 _ _ ⟨iP2, iD1, jP2, jD2, iN, iS2, iL, iX, ib, ic, isl, ho.1, ho2.1, i3, er.2⟩
theorem xjx_count : xmi 91 = some (yX6_count, cX6_count, 6, 2, 2, 1, 1, 0, 0, xt91) := rfl
theorem xjm_count : xmi 225 = some (yX7_count, cX7_count, 7, 2, 4, 1, 1, 0, 0, xt225) := rfl
theorem lc_count (hE : lEnv p l e s m b c D cA xa fm) (hI : lW s b D cA fm xs L adx adm hC hM i0 H locs ls cells slots) (hi : i0 + 6 ≤ L) (K : ∀ (gC gM : dH) (H2 : Heap) (locs2 : List Loc), lW s b D cA fm xs L adx adm gC gM i0 H2 locs2 ls cells slots → W p l e room_1 s m #[Value.ref b] below meth c H2 locs2 cells slots (lw_Z below #[Value.ref b] s) (F0 m 1165 ls [])) : W p l e room_1 s m #[Value.ref b] below meth c H locs cells slots (lw_Z below #[Value.ref b] s) (F0 m 907 ls []) := by
  obtain ⟨iP, iD, jP, jD, iN, iS, iL, iX, ib, ic, isl, iC, iM, i3, iR⟩ := hI
  have g0 := iL.2.2 (0, .ref b) (by simp)
  have g1 := iL.2.2 (1, .ref (adx 0)) (by simp)
  have g2 := iL.2.2 (2, .ref (adm 0)) (by simp)
  have g3 := iL.2.2 (3, .int (Int32.ofNat i0)) (by simp)
  refine lv_aload_n (pc := 907) (x := adx 0) hE.1 hE.2.1 dL_law_907 rfl g1 ?_
  refine law_arg (pc := 908) hE iX i3 ib iS g0 g3 (i := 1) (by omega) (by decide) dL_law_908 dL_law_909 dL_law_910 dL_law_911 dL_law_912 ?_
  refine law_op (pc := 913) (as' := [.int (xs (i0 + 1))]) (av := [.int (xs (i0 + 1))]) (ad := adx) (ad2 := adm) (C2 := dC shM hM) hE shC_sc hbC atC0 xjx_count ⟨rfl, rfl, rfl, rfl, by decide, rfl⟩ (m_X6_count (by decide) (xs (i0 + 1)) hC) (s_X6_count hC iC (xs (i0 + 1))) (fun _ => rfl) iP iD jP (fun i hi k hk => iN i hi k (by rw [dC_len] at hk; exact hk)) iS iL.1 (by decide) ⟨ic, isl⟩ dL_law_913 (kr_46 _ (List.mem_of_getElem? (i := 15) rfl)) (fun o ho he ad1 H1 locs1 iP1 iD1 jP1 iS1 => ?_)
  refine lv_pop (pc := 916) (va := .int o) (rest := []) hE.1 hE.2.1 dL_law_916 rfl ?_
  refine lv_aload_n (pc := 917) (x := adm 0) (rest := []) hE.1 hE.2.1 dL_law_917 rfl g2 ?_
  refine law_arg (pc := 918) hE iX i3 ib iS1 g0 g3 (i := 1) (by omega) (by decide) dL_law_918 dL_law_919 dL_law_920 dL_law_921 dL_law_922 ?_
  refine law_op (pc := 923) (rest := []) (as' := [.int (xs (i0 + 1))]) (av := [.int (xs (i0 + 1))]) (ad := adm) (ad2 := adx) (C2 := dC shC hC) hE shM_sc hbM atM0 xjm_count ⟨rfl, rfl, rfl, rfl, by decide, rfl⟩ (m_X7_count (by decide) (xs (i0 + 1)) hM) (s_X7_count hM iM (xs (i0 + 1))) (fun _ => rfl) jP1 jD iP1 (fun i hi k hk => (iN k (by rw [dC_len] at hk; exact hk) i hi).symm) iS1 iL.1 (by decide) ⟨ic, isl⟩ dL_law_923 (kr_46 _ (List.mem_of_getElem? (i := 23) rfl)) (fun o2 ho2 he2 ad2 H2 locs2 jP2 jD2 iP2 iS2 => ?_)
  have er := op_count iR (xs (i0 + 1)) o he o2 he2
  refine lv_pop (pc := 926) (va := .int o2) (rest := []) hE.1 hE.2.1 dL_law_926 rfl ?_
  refine lv_goto (pc := 927) (tgt := 1165) hE.1 hE.2.1 dL_law_927 rfl ?_
  exact K hC hM _ _ ⟨iP2, iD1, jP2, jD2, iN, iS2, iL, iX, ib, ic, isl, iC, iM, i3, iR⟩
theorem xjx_sheet : xmi 92 = some (yX6_sheet, cX6_sheet, 6, 4, 4, 1, 1, 0, 0, xt92) := rfl
theorem xjm_sheet : xmi 227 = some (yX7_sheet, cX7_sheet, 7, 4, 5, 1, 1, 0, 0, xt227) := rfl
theorem lc_sheet (hE : lEnv p l e s m b c D cA xa fm) (hI : lW s b D cA fm xs L adx adm hC hM i0 H locs ls cells slots) (hi : i0 + 6 ≤ L) (K : ∀ (gC gM : dH) (H2 : Heap) (locs2 : List Loc), lW s b D cA fm xs L adx adm gC gM i0 H2 locs2 ls cells slots → W p l e room_1 s m #[Value.ref b] below meth c H2 locs2 cells slots (lw_Z below #[Value.ref b] s) (F0 m 1165 ls [])) : W p l e room_1 s m #[Value.ref b] below meth c H locs cells slots (lw_Z below #[Value.ref b] s) (F0 m 930 ls []) := by
  obtain ⟨iP, iD, jP, jD, iN, iS, iL, iX, ib, ic, isl, iC, iM, i3, iR⟩ := hI
  have g0 := iL.2.2 (0, .ref b) (by simp)
  have g1 := iL.2.2 (1, .ref (adx 0)) (by simp)
  have g2 := iL.2.2 (2, .ref (adm 0)) (by simp)
  have g3 := iL.2.2 (3, .int (Int32.ofNat i0)) (by simp)
  refine lv_aload_n (pc := 930) (x := adx 0) hE.1 hE.2.1 dL_law_930 rfl g1 ?_
  refine law_arg (pc := 931) hE iX i3 ib iS g0 g3 (i := 1) (by omega) (by decide) dL_law_931 dL_law_932 dL_law_933 dL_law_934 dL_law_935 ?_
  refine law_arg (pc := 936) hE iX i3 ib iS g0 g3 (i := 2) (by omega) (by decide) dL_law_936 dL_law_937 dL_law_938 dL_law_939 dL_law_940 ?_
  refine law_arg (pc := 941) hE iX i3 ib iS g0 g3 (i := 3) (by omega) (by decide) dL_law_941 dL_law_942 dL_law_943 dL_law_944 dL_law_945 ?_
  refine law_op (pc := 946) (as' := [.int (xs (i0 + 1)), .int (xs (i0 + 2)), .int (xs (i0 + 3))]) (av := [.int (xs (i0 + 1)), .int (xs (i0 + 2)), .int (xs (i0 + 3))]) (ad := adx) (ad2 := adm) (C2 := dC shM hM) hE shC_sc hbC atC0 xjx_sheet ⟨rfl, rfl, rfl, rfl, by decide, rfl⟩ (m_X6_sheet (by decide) (xs (i0 + 1)) (xs (i0 + 2)) (xs (i0 + 3)) hC) (s_X6_sheet hC iC (xs (i0 + 1)) (xs (i0 + 2)) (xs (i0 + 3))) (fun _ => rfl) iP iD jP (fun i hi k hk => iN i hi k (by rw [dC_len] at hk; exact hk)) iS iL.1 (by decide) ⟨ic, isl⟩ dL_law_946 (kr_47 _ (List.mem_of_getElem? (i := 3) rfl)) (fun o ho he ad1 H1 locs1 iP1 iD1 jP1 iS1 => ?_)
  refine lv_pop (pc := 949) (va := .int o.1) (rest := []) hE.1 hE.2.1 dL_law_949 rfl ?_
  refine lv_aload_n (pc := 950) (x := adm 0) (rest := []) hE.1 hE.2.1 dL_law_950 rfl g2 ?_
  refine law_arg (pc := 951) hE iX i3 ib iS1 g0 g3 (i := 1) (by omega) (by decide) dL_law_951 dL_law_952 dL_law_953 dL_law_954 dL_law_955 ?_
  refine law_arg (pc := 956) hE iX i3 ib iS1 g0 g3 (i := 2) (by omega) (by decide) dL_law_956 dL_law_957 dL_law_958 dL_law_959 dL_law_960 ?_
  refine law_arg (pc := 961) hE iX i3 ib iS1 g0 g3 (i := 3) (by omega) (by decide) dL_law_961 dL_law_962 dL_law_963 dL_law_964 dL_law_965 ?_
  refine law_op (pc := 966) (rest := []) (as' := [.int (xs (i0 + 1)), .int (xs (i0 + 2)), .int (xs (i0 + 3))]) (av := [.int (xs (i0 + 1)), .int (xs (i0 + 2)), .int (xs (i0 + 3))]) (ad := adm) (ad2 := adx) (C2 := dC shC o.2) hE shM_sc hbM atM0 xjm_sheet ⟨rfl, rfl, rfl, rfl, by decide, rfl⟩ (m_X7_sheet (by decide) (xs (i0 + 1)) (xs (i0 + 2)) (xs (i0 + 3)) hM) (s_X7_sheet hM iM (xs (i0 + 1)) (xs (i0 + 2)) (xs (i0 + 3))) (fun _ => rfl) jP1 jD iP1 (fun i hi k hk => (iN k (by rw [dC_len] at hk; exact hk) i hi).symm) iS1 iL.1 (by decide) ⟨ic, isl⟩ dL_law_966 (kr_47 _ (List.mem_of_getElem? (i := 10) rfl)) (fun o2 ho2 he2 ad2 H2 locs2 jP2 jD2 iP2 iS2 => ?_)
  have er := op_sheet iR (xs (i0 + 1)) (xs (i0 + 2)) (xs (i0 + 3)) o he o2 he2
  refine lv_pop (pc := 969) (va := .int o2.1) (rest := []) hE.1 hE.2.1 dL_law_969 rfl ?_
  refine lv_goto (pc := 970) (tgt := 1165) hE.1 hE.2.1 dL_law_970 rfl ?_
  exact K o.2 o2.2 _ _ ⟨iP2, iD1, jP2, jD2, iN, iS2, iL, iX, ib, ic, isl, ho.1, ho2.1, i3, er.2⟩
theorem xjx_cell : xmi 93 = some (yX6_cell, cX6_cell, 6, 4, 5, 1, 1, 0, 0, xt93) := rfl
theorem xjm_cell : xmi 228 = some (yX7_cell, cX7_cell, 7, 4, 4, 1, 1, 0, 0, xt228) := rfl
theorem lc_cell (hE : lEnv p l e s m b c D cA xa fm) (hI : lW s b D cA fm xs L adx adm hC hM i0 H locs ls cells slots) (hi : i0 + 6 ≤ L) (K : ∀ (gC gM : dH) (H2 : Heap) (locs2 : List Loc), lW s b D cA fm xs L adx adm gC gM i0 H2 locs2 ls cells slots → W p l e room_1 s m #[Value.ref b] below meth c H2 locs2 cells slots (lw_Z below #[Value.ref b] s) (F0 m 1165 ls [])) : W p l e room_1 s m #[Value.ref b] below meth c H locs cells slots (lw_Z below #[Value.ref b] s) (F0 m 973 ls []) := by
  obtain ⟨iP, iD, jP, jD, iN, iS, iL, iX, ib, ic, isl, iC, iM, i3, iR⟩ := hI
  have g0 := iL.2.2 (0, .ref b) (by simp)
  have g1 := iL.2.2 (1, .ref (adx 0)) (by simp)
  have g2 := iL.2.2 (2, .ref (adm 0)) (by simp)
  have g3 := iL.2.2 (3, .int (Int32.ofNat i0)) (by simp)
  refine lv_aload_n (pc := 973) (x := adx 0) hE.1 hE.2.1 dL_law_973 rfl g1 ?_
  refine law_arg (pc := 974) hE iX i3 ib iS g0 g3 (i := 1) (by omega) (by decide) dL_law_974 dL_law_975 dL_law_976 dL_law_977 dL_law_978 ?_
  refine law_arg (pc := 979) hE iX i3 ib iS g0 g3 (i := 2) (by omega) (by decide) dL_law_979 dL_law_980 dL_law_981 dL_law_982 dL_law_983 ?_
  refine law_arg (pc := 984) hE iX i3 ib iS g0 g3 (i := 3) (by omega) (by decide) dL_law_984 dL_law_985 dL_law_986 dL_law_987 dL_law_988 ?_
  refine law_op (pc := 989) (as' := [.int (xs (i0 + 1)), .int (xs (i0 + 2)), .int (xs (i0 + 3))]) (av := [.int (xs (i0 + 1)), .int (xs (i0 + 2)), .int (xs (i0 + 3))]) (ad := adx) (ad2 := adm) (C2 := dC shM hM) hE shC_sc hbC atC0 xjx_cell ⟨rfl, rfl, rfl, rfl, by decide, rfl⟩ (m_X6_cell (by decide) (xs (i0 + 1)) (xs (i0 + 2)) (xs (i0 + 3)) hC) (s_X6_cell hC iC (xs (i0 + 1)) (xs (i0 + 2)) (xs (i0 + 3))) (fun _ => rfl) iP iD jP (fun i hi k hk => iN i hi k (by rw [dC_len] at hk; exact hk)) iS iL.1 (by decide) ⟨ic, isl⟩ dL_law_989 (kr_47 _ (List.mem_of_getElem? (i := 11) rfl)) (fun o ho he ad1 H1 locs1 iP1 iD1 jP1 iS1 => ?_)
  refine lv_pop (pc := 992) (va := .int o.1) (rest := []) hE.1 hE.2.1 dL_law_992 rfl ?_
  refine lv_aload_n (pc := 993) (x := adm 0) (rest := []) hE.1 hE.2.1 dL_law_993 rfl g2 ?_
  refine law_arg (pc := 994) hE iX i3 ib iS1 g0 g3 (i := 1) (by omega) (by decide) dL_law_994 dL_law_995 dL_law_996 dL_law_997 dL_law_998 ?_
  refine law_arg (pc := 999) hE iX i3 ib iS1 g0 g3 (i := 2) (by omega) (by decide) dL_law_999 dL_law_1000 dL_law_1001 dL_law_1002 dL_law_1003 ?_
  refine law_arg (pc := 1004) hE iX i3 ib iS1 g0 g3 (i := 3) (by omega) (by decide) dL_law_1004 dL_law_1005 dL_law_1006 dL_law_1007 dL_law_1008 ?_
  refine law_op (pc := 1009) (rest := []) (as' := [.int (xs (i0 + 1)), .int (xs (i0 + 2)), .int (xs (i0 + 3))]) (av := [.int (xs (i0 + 1)), .int (xs (i0 + 2)), .int (xs (i0 + 3))]) (ad := adm) (ad2 := adx) (C2 := dC shC o.2) hE shM_sc hbM atM0 xjm_cell ⟨rfl, rfl, rfl, rfl, by decide, rfl⟩ (m_X7_cell (by decide) (xs (i0 + 1)) (xs (i0 + 2)) (xs (i0 + 3)) hM) (s_X7_cell hM iM (xs (i0 + 1)) (xs (i0 + 2)) (xs (i0 + 3))) (fun _ => rfl) jP1 jD iP1 (fun i hi k hk => (iN k (by rw [dC_len] at hk; exact hk) i hi).symm) iS1 iL.1 (by decide) ⟨ic, isl⟩ dL_law_1009 (kr_47 _ (List.mem_of_getElem? (i := 19) rfl)) (fun o2 ho2 he2 ad2 H2 locs2 jP2 jD2 iP2 iS2 => ?_)
  have er := op_cell iR (xs (i0 + 1)) (xs (i0 + 2)) (xs (i0 + 3)) o he o2 he2
  refine lv_pop (pc := 1012) (va := .int o2.1) (rest := []) hE.1 hE.2.1 dL_law_1012 rfl ?_
  refine lv_goto (pc := 1013) (tgt := 1165) hE.1 hE.2.1 dL_law_1013 rfl ?_
  exact K o.2 o2.2 _ _ ⟨iP2, iD1, jP2, jD2, iN, iS2, iL, iX, ib, ic, isl, ho.1, ho2.1, i3, er.2⟩
theorem xjx_copy : xmi 94 = some (yX6_copy, cX6_copy, 6, 6, 8, 1, 1, 0, 0, xt94) := rfl
theorem xjm_copy : xmi 229 = some (yX7_copy, cX7_copy, 7, 6, 9, 1, 1, 0, 0, xt229) := rfl
theorem lc_copy (hE : lEnv p l e s m b c D cA xa fm) (hI : lW s b D cA fm xs L adx adm hC hM i0 H locs ls cells slots) (hi : i0 + 6 ≤ L) (K : ∀ (gC gM : dH) (H2 : Heap) (locs2 : List Loc), lW s b D cA fm xs L adx adm gC gM i0 H2 locs2 ls cells slots → W p l e room_1 s m #[Value.ref b] below meth c H2 locs2 cells slots (lw_Z below #[Value.ref b] s) (F0 m 1165 ls [])) : W p l e room_1 s m #[Value.ref b] below meth c H locs cells slots (lw_Z below #[Value.ref b] s) (F0 m 1016 ls []) := by
  obtain ⟨iP, iD, jP, jD, iN, iS, iL, iX, ib, ic, isl, iC, iM, i3, iR⟩ := hI
  have g0 := iL.2.2 (0, .ref b) (by simp)
  have g1 := iL.2.2 (1, .ref (adx 0)) (by simp)
  have g2 := iL.2.2 (2, .ref (adm 0)) (by simp)
  have g3 := iL.2.2 (3, .int (Int32.ofNat i0)) (by simp)
  refine lv_aload_n (pc := 1016) (x := adx 0) hE.1 hE.2.1 dL_law_1016 rfl g1 ?_
  refine law_arg (pc := 1017) hE iX i3 ib iS g0 g3 (i := 1) (by omega) (by decide) dL_law_1017 dL_law_1018 dL_law_1019 dL_law_1020 dL_law_1021 ?_
  refine law_arg (pc := 1022) hE iX i3 ib iS g0 g3 (i := 2) (by omega) (by decide) dL_law_1022 dL_law_1023 dL_law_1024 dL_law_1025 dL_law_1026 ?_
  refine law_arg (pc := 1027) hE iX i3 ib iS g0 g3 (i := 3) (by omega) (by decide) dL_law_1027 dL_law_1028 dL_law_1029 dL_law_1030 dL_law_1031 ?_
  refine law_arg (pc := 1032) hE iX i3 ib iS g0 g3 (i := 4) (by omega) (by decide) dL_law_1032 dL_law_1033 dL_law_1034 dL_law_1035 dL_law_1036 ?_
  refine law_arg (pc := 1037) hE iX i3 ib iS g0 g3 (i := 5) (by omega) (by decide) dL_law_1037 dL_law_1038 dL_law_1039 dL_law_1040 dL_law_1041 ?_
  refine law_op (pc := 1042) (as' := [.int (xs (i0 + 1)), .int (xs (i0 + 2)), .int (xs (i0 + 3)), .int (xs (i0 + 4)), .int (xs (i0 + 5))]) (av := [.int (xs (i0 + 1)), .int (xs (i0 + 2)), .int (xs (i0 + 3)), .int (xs (i0 + 4)), .int (xs (i0 + 5))]) (ad := adx) (ad2 := adm) (C2 := dC shM hM) hE shC_sc hbC atC0 xjx_copy ⟨rfl, rfl, rfl, rfl, by decide, rfl⟩ (m_X6_copy (by decide) (xs (i0 + 1)) (xs (i0 + 2)) (xs (i0 + 3)) (xs (i0 + 4)) (xs (i0 + 5)) hC) (s_X6_copy hC iC (xs (i0 + 1)) (xs (i0 + 2)) (xs (i0 + 3)) (xs (i0 + 4)) (xs (i0 + 5))) (fun _ => rfl) iP iD jP (fun i hi k hk => iN i hi k (by rw [dC_len] at hk; exact hk)) iS iL.1 (by decide) ⟨ic, isl⟩ dL_law_1042 (kr_47 _ (List.mem_of_getElem? (i := 23) rfl)) (fun o ho he ad1 H1 locs1 iP1 iD1 jP1 iS1 => ?_)
  refine lv_pop (pc := 1045) (va := .int o.1) (rest := []) hE.1 hE.2.1 dL_law_1045 rfl ?_
  refine lv_aload_n (pc := 1046) (x := adm 0) (rest := []) hE.1 hE.2.1 dL_law_1046 rfl g2 ?_
  refine law_arg (pc := 1047) hE iX i3 ib iS1 g0 g3 (i := 1) (by omega) (by decide) dL_law_1047 dL_law_1048 dL_law_1049 dL_law_1050 dL_law_1051 ?_
  refine law_arg (pc := 1052) hE iX i3 ib iS1 g0 g3 (i := 2) (by omega) (by decide) dL_law_1052 dL_law_1053 dL_law_1054 dL_law_1055 dL_law_1056 ?_
  refine law_arg (pc := 1057) hE iX i3 ib iS1 g0 g3 (i := 3) (by omega) (by decide) dL_law_1057 dL_law_1058 dL_law_1059 dL_law_1060 dL_law_1061 ?_
  refine law_arg (pc := 1062) hE iX i3 ib iS1 g0 g3 (i := 4) (by omega) (by decide) dL_law_1062 dL_law_1063 dL_law_1064 dL_law_1065 dL_law_1066 ?_
  refine law_arg (pc := 1067) hE iX i3 ib iS1 g0 g3 (i := 5) (by omega) (by decide) dL_law_1067 dL_law_1068 dL_law_1069 dL_law_1070 dL_law_1071 ?_
  refine law_op (pc := 1072) (rest := []) (as' := [.int (xs (i0 + 1)), .int (xs (i0 + 2)), .int (xs (i0 + 3)), .int (xs (i0 + 4)), .int (xs (i0 + 5))]) (av := [.int (xs (i0 + 1)), .int (xs (i0 + 2)), .int (xs (i0 + 3)), .int (xs (i0 + 4)), .int (xs (i0 + 5))]) (ad := adm) (ad2 := adx) (C2 := dC shC o.2) hE shM_sc hbM atM0 xjm_copy ⟨rfl, rfl, rfl, rfl, by decide, rfl⟩ (m_X7_copy (by decide) (xs (i0 + 1)) (xs (i0 + 2)) (xs (i0 + 3)) (xs (i0 + 4)) (xs (i0 + 5)) hM) (s_X7_copy hM iM (xs (i0 + 1)) (xs (i0 + 2)) (xs (i0 + 3)) (xs (i0 + 4)) (xs (i0 + 5))) (fun _ => rfl) jP1 jD iP1 (fun i hi k hk => (iN k (by rw [dC_len] at hk; exact hk) i hi).symm) iS1 iL.1 (by decide) ⟨ic, isl⟩ dL_law_1072 (kr_48 _ (List.mem_of_getElem? (i := 5) rfl)) (fun o2 ho2 he2 ad2 H2 locs2 jP2 jD2 iP2 iS2 => ?_)
  have er := op_copy iR (xs (i0 + 1)) (xs (i0 + 2)) (xs (i0 + 3)) (xs (i0 + 4)) (xs (i0 + 5)) o he o2 he2
  refine lv_pop (pc := 1075) (va := .int o2.1) (rest := []) hE.1 hE.2.1 dL_law_1075 rfl ?_
  refine lv_goto (pc := 1076) (tgt := 1165) hE.1 hE.2.1 dL_law_1076 rfl ?_
  exact K o.2 o2.2 _ _ ⟨iP2, iD1, jP2, jD2, iN, iS2, iL, iX, ib, ic, isl, ho.1, ho2.1, i3, er.2⟩
theorem xjx_houses : xmi 95 = some (yX6_houses, cX6_houses, 6, 5, 9, 1, 1, 0, 0, xt95) := rfl
theorem xjm_houses : xmi 230 = some (yX7_houses, cX7_houses, 7, 5, 8, 1, 1, 0, 0, xt230) := rfl
theorem lc_houses (hE : lEnv p l e s m b c D cA xa fm) (hI : lW s b D cA fm xs L adx adm hC hM i0 H locs ls cells slots) (hi : i0 + 6 ≤ L) (K : ∀ (gC gM : dH) (H2 : Heap) (locs2 : List Loc), lW s b D cA fm xs L adx adm gC gM i0 H2 locs2 ls cells slots → W p l e room_1 s m #[Value.ref b] below meth c H2 locs2 cells slots (lw_Z below #[Value.ref b] s) (F0 m 1165 ls [])) : W p l e room_1 s m #[Value.ref b] below meth c H locs cells slots (lw_Z below #[Value.ref b] s) (F0 m 1079 ls []) := by
  obtain ⟨iP, iD, jP, jD, iN, iS, iL, iX, ib, ic, isl, iC, iM, i3, iR⟩ := hI
  have g0 := iL.2.2 (0, .ref b) (by simp)
  have g1 := iL.2.2 (1, .ref (adx 0)) (by simp)
  have g2 := iL.2.2 (2, .ref (adm 0)) (by simp)
  have g3 := iL.2.2 (3, .int (Int32.ofNat i0)) (by simp)
  refine lv_aload_n (pc := 1079) (x := adx 0) hE.1 hE.2.1 dL_law_1079 rfl g1 ?_
  refine law_arg (pc := 1080) hE iX i3 ib iS g0 g3 (i := 1) (by omega) (by decide) dL_law_1080 dL_law_1081 dL_law_1082 dL_law_1083 dL_law_1084 ?_
  refine law_arg (pc := 1085) hE iX i3 ib iS g0 g3 (i := 2) (by omega) (by decide) dL_law_1085 dL_law_1086 dL_law_1087 dL_law_1088 dL_law_1089 ?_
  refine law_arg (pc := 1090) hE iX i3 ib iS g0 g3 (i := 3) (by omega) (by decide) dL_law_1090 dL_law_1091 dL_law_1092 dL_law_1093 dL_law_1094 ?_
  refine law_arg (pc := 1095) hE iX i3 ib iS g0 g3 (i := 4) (by omega) (by decide) dL_law_1095 dL_law_1096 dL_law_1097 dL_law_1098 dL_law_1099 ?_
  refine law_op (pc := 1100) (as' := [.int (xs (i0 + 1)), .int (xs (i0 + 2)), .int (xs (i0 + 3)), .int (xs (i0 + 4))]) (av := [.int (xs (i0 + 1)), .int (xs (i0 + 2)), .int (xs (i0 + 3)), .int (xs (i0 + 4))]) (ad := adx) (ad2 := adm) (C2 := dC shM hM) hE shC_sc hbC atC0 xjx_houses ⟨rfl, rfl, rfl, rfl, by decide, rfl⟩ (m_X6_houses (by decide) (xs (i0 + 1)) (xs (i0 + 2)) (xs (i0 + 3)) (xs (i0 + 4)) hC) (s_X6_houses hC iC (xs (i0 + 1)) (xs (i0 + 2)) (xs (i0 + 3)) (xs (i0 + 4))) (fun _ => rfl) iP iD jP (fun i hi k hk => iN i hi k (by rw [dC_len] at hk; exact hk)) iS iL.1 (by decide) ⟨ic, isl⟩ dL_law_1100 (kr_48 _ (List.mem_of_getElem? (i := 9) rfl)) (fun o ho he ad1 H1 locs1 iP1 iD1 jP1 iS1 => ?_)
  refine lv_pop (pc := 1103) (va := .int o.1) (rest := []) hE.1 hE.2.1 dL_law_1103 rfl ?_
  refine lv_aload_n (pc := 1104) (x := adm 0) (rest := []) hE.1 hE.2.1 dL_law_1104 rfl g2 ?_
  refine law_arg (pc := 1105) hE iX i3 ib iS1 g0 g3 (i := 1) (by omega) (by decide) dL_law_1105 dL_law_1106 dL_law_1107 dL_law_1108 dL_law_1109 ?_
  refine law_arg (pc := 1110) hE iX i3 ib iS1 g0 g3 (i := 2) (by omega) (by decide) dL_law_1110 dL_law_1111 dL_law_1112 dL_law_1113 dL_law_1114 ?_
  refine law_arg (pc := 1115) hE iX i3 ib iS1 g0 g3 (i := 3) (by omega) (by decide) dL_law_1115 dL_law_1116 dL_law_1117 dL_law_1118 dL_law_1119 ?_
  refine law_arg (pc := 1120) hE iX i3 ib iS1 g0 g3 (i := 4) (by omega) (by decide) dL_law_1120 dL_law_1121 dL_law_1122 dL_law_1123 dL_law_1124 ?_
  refine law_op (pc := 1125) (rest := []) (as' := [.int (xs (i0 + 1)), .int (xs (i0 + 2)), .int (xs (i0 + 3)), .int (xs (i0 + 4))]) (av := [.int (xs (i0 + 1)), .int (xs (i0 + 2)), .int (xs (i0 + 3)), .int (xs (i0 + 4))]) (ad := adm) (ad2 := adx) (C2 := dC shC o.2) hE shM_sc hbM atM0 xjm_houses ⟨rfl, rfl, rfl, rfl, by decide, rfl⟩ (m_X7_houses (by decide) (xs (i0 + 1)) (xs (i0 + 2)) (xs (i0 + 3)) (xs (i0 + 4)) hM) (s_X7_houses hM iM (xs (i0 + 1)) (xs (i0 + 2)) (xs (i0 + 3)) (xs (i0 + 4))) (fun _ => rfl) jP1 jD iP1 (fun i hi k hk => (iN k (by rw [dC_len] at hk; exact hk) i hi).symm) iS1 iL.1 (by decide) ⟨ic, isl⟩ dL_law_1125 (kr_48 _ (List.mem_of_getElem? (i := 13) rfl)) (fun o2 ho2 he2 ad2 H2 locs2 jP2 jD2 iP2 iS2 => ?_)
  have er := op_houses iR (xs (i0 + 1)) (xs (i0 + 2)) (xs (i0 + 3)) (xs (i0 + 4)) o he o2 he2
  refine lv_pop (pc := 1128) (va := .int o2.1) (rest := []) hE.1 hE.2.1 dL_law_1128 rfl ?_
  refine lv_goto (pc := 1129) (tgt := 1165) hE.1 hE.2.1 dL_law_1129 rfl ?_
  exact K o.2 o2.2 _ _ ⟨iP2, iD1, jP2, jD2, iN, iS2, iL, iX, ib, ic, isl, ho.1, ho2.1, i3, er.2⟩
theorem xjx_taken : xmi 96 = some (yX6_taken, cX6_taken, 6, 3, 3, 1, 1, 0, 0, xt96) := rfl
theorem xjm_taken : xmi 232 = some (yX7_taken, cX7_taken, 7, 3, 4, 1, 1, 0, 0, xt232) := rfl
theorem lc_taken (hE : lEnv p l e s m b c D cA xa fm) (hI : lW s b D cA fm xs L adx adm hC hM i0 H locs ls cells slots) (hi : i0 + 6 ≤ L) (K : ∀ (gC gM : dH) (H2 : Heap) (locs2 : List Loc), lW s b D cA fm xs L adx adm gC gM i0 H2 locs2 ls cells slots → W p l e room_1 s m #[Value.ref b] below meth c H2 locs2 cells slots (lw_Z below #[Value.ref b] s) (F0 m 1165 ls [])) : W p l e room_1 s m #[Value.ref b] below meth c H locs cells slots (lw_Z below #[Value.ref b] s) (F0 m 1132 ls []) := by
  obtain ⟨iP, iD, jP, jD, iN, iS, iL, iX, ib, ic, isl, iC, iM, i3, iR⟩ := hI
  have g0 := iL.2.2 (0, .ref b) (by simp)
  have g1 := iL.2.2 (1, .ref (adx 0)) (by simp)
  have g2 := iL.2.2 (2, .ref (adm 0)) (by simp)
  have g3 := iL.2.2 (3, .int (Int32.ofNat i0)) (by simp)
  refine lv_aload_n (pc := 1132) (x := adx 0) hE.1 hE.2.1 dL_law_1132 rfl g1 ?_
  refine law_arg (pc := 1133) hE iX i3 ib iS g0 g3 (i := 1) (by omega) (by decide) dL_law_1133 dL_law_1134 dL_law_1135 dL_law_1136 dL_law_1137 ?_
  refine law_arg (pc := 1138) hE iX i3 ib iS g0 g3 (i := 2) (by omega) (by decide) dL_law_1138 dL_law_1139 dL_law_1140 dL_law_1141 dL_law_1142 ?_
  refine law_op (pc := 1143) (as' := [.int (xs (i0 + 1)), .int (xs (i0 + 2))]) (av := [.int (xs (i0 + 1)), .int (xs (i0 + 2))]) (ad := adx) (ad2 := adm) (C2 := dC shM hM) hE shC_sc hbC atC0 xjx_taken ⟨rfl, rfl, rfl, rfl, by decide, rfl⟩ (m_X6_taken (by decide) (xs (i0 + 1)) (xs (i0 + 2)) hC) (s_X6_taken hC iC (xs (i0 + 1)) (xs (i0 + 2))) (fun _ => rfl) iP iD jP (fun i hi k hk => iN i hi k (by rw [dC_len] at hk; exact hk)) iS iL.1 (by decide) ⟨ic, isl⟩ dL_law_1143 (kr_48 _ (List.mem_of_getElem? (i := 19) rfl)) (fun o ho he ad1 H1 locs1 iP1 iD1 jP1 iS1 => ?_)
  refine lv_aload_n (pc := 1146) (x := adm 0) (rest := [.int o]) hE.1 hE.2.1 dL_law_1146 rfl g2 ?_
  refine law_arg (pc := 1147) hE iX i3 ib iS1 g0 g3 (i := 1) (by omega) (by decide) dL_law_1147 dL_law_1148 dL_law_1149 dL_law_1150 dL_law_1151 ?_
  refine law_arg (pc := 1152) hE iX i3 ib iS1 g0 g3 (i := 2) (by omega) (by decide) dL_law_1152 dL_law_1153 dL_law_1154 dL_law_1155 dL_law_1156 ?_
  refine law_op (pc := 1157) (rest := [.int o]) (as' := [.int (xs (i0 + 1)), .int (xs (i0 + 2))]) (av := [.int (xs (i0 + 1)), .int (xs (i0 + 2))]) (ad := adm) (ad2 := adx) (C2 := dC shC hC) hE shM_sc hbM atM0 xjm_taken ⟨rfl, rfl, rfl, rfl, by decide, rfl⟩ (m_X7_taken (by decide) (xs (i0 + 1)) (xs (i0 + 2)) hM) (s_X7_taken hM iM (xs (i0 + 1)) (xs (i0 + 2))) (fun _ => rfl) jP1 jD iP1 (fun i hi k hk => (iN k (by rw [dC_len] at hk; exact hk) i hi).symm) iS1 iL.1 (by show (1 : Nat) + 0 ≤ 8; decide) ⟨ic, isl⟩ dL_law_1157 (kr_49 _ (List.mem_of_getElem? (i := 3) rfl)) (fun o2 ho2 he2 ad2 H2 locs2 jP2 jD2 iP2 iS2 => ?_)
  have er := op_taken iR (xs (i0 + 1)) (xs (i0 + 2)) o he o2 he2
  refine lv_icmp_eq (pc := 1160) (x := o) (y := o2) (tgt := 1165) (rest := []) hE.1 hE.2.1 dL_law_1160 rfl (fun _ => ?_) (fun z => absurd er z)
  exact K hC hM _ _ ⟨iP2, iD1, jP2, jD2, iN, iS2, iL, iX, ib, ic, isl, iC, iM, i3, iR⟩
end XOPS
end

section
/-! the whole of the law: two fresh objects, one call of each -/
def lF6 : List Value := [.null, .null, .null, .int 0, .null, .null, .null, .int 0, .null, .null]
def lF7 : List Value := [.int 0, .null, .null, .int 0, .int 0, .null, .int 0, .int 0, .int 0, .null, .null, .null, .null, .int 0, .int 0, .int 0, .int 0, .int 0, .int 0, .int 0, .int 0, .int 0, .int 0, .int 0, .int 0, .long 0, .int 0, .int 0, .int 0, .int 0, .int 0, .int 0, .null, .null, .int 0, .null, .null, .null, .null, .int 0, .int 0, .int 0, .int 0, .null, .null, .null, .null]
theorem lK6 (k : Nat) (hk : k < 10) : defaultValue (kxT 6 k) = vp_V lF6 k := of_decide_eq_true ((kx_ok 6 (RX6, TX6, 10) rfl).2.2.2.2.2.2.1 k hk)
theorem lK7 (k : Nat) (hk : k < 47) : defaultValue (kxT 7 k) = vp_V lF7 k := of_decide_eq_true ((kx_ok 7 (RX7, TX7, 47) rfl).2.2.2.2.2.2.1 k hk)
theorem lj_x : xmi 65 = some (yX6_init, cX6_init, 6, 1, 2, 0, 2, 84, 2427, xt65) := rfl
theorem lj_m : xmi 120 = some (yX7_init, cX7_init, 7, 1, 1, 0, 2, 17, 1602, xt120) := rfl
theorem lmap6 (V : Value → Value) (h1 : ∀ x, V (.int x) = .int x) (h2 : V .null = .null) (h3 : ∀ x, V (.long x) = .long x) : lF6.map V = lF6 := xdf_V h1 h2 h3 (ci := 6) rfl
theorem lmap7 (V : Value → Value) (h1 : ∀ x, V (.int x) = .int x) (h2 : V .null = .null) (h3 : ∀ x, V (.long x) = .long x) : lF7.map V = lF7 := xdf_V h1 h2 h3 (ci := 7) rfl
section XWHOLE
variable {p : Program} {l : Launch} {e : Env} {s : State} {m : MethodId} {b : Nat} {below : List Frame} {meth : Method} {c : Code} {D : va_G} {cA : Nat → ClassId} {xa : Nat → Nat} {fm : Value} {xs : Nat → Int32} {L i0 : Nat} {adx adm : Nat → Nat} {hC hM : dH} {H : Heap} {locs : List Loc} {ls : Array Slot} {cells slots : Nat}
theorem law_switch (hr : meth.sig.returnType = ret) (hlk : meth.locks = false) (hE : lEnv p l e s m b c D cA xa fm) (hI : lW s b D cA fm xs L adx adm hC hM i0 H locs ls cells slots) (hi : i0 + 6 ≤ L) (K : ∀ (gC gM : dH) (H2 : Heap) (locs2 : List Loc), lW s b D cA fm xs L adx adm gC gM i0 H2 locs2 ls cells slots → W p l e room_1 s m #[Value.ref b] below meth c H2 locs2 cells slots (lw_Z below #[Value.ref b] s) (F0 m 1165 ls [])) : W p l e room_1 s m #[Value.ref b] below meth c H locs cells slots (lw_Z below #[Value.ref b] s) (F0 m 33 ls [.int (xs i0 &&& 31)]) := by
  obtain ⟨j, hj, ej⟩ := pk_andE (xs i0) 5 (m := 31) rfl
  rw [ej]
  match j, hj with
  | 0, _ => exact lv_tableIn (off := 139) (tgt := 172) hE.1 hE.2.1 dL_law_33 (by decide) (by decide) rfl rfl (lc_set hE hI hi K)
  | 1, _ => exact lv_tableIn (off := 182) (tgt := 215) hE.1 hE.2.1 dL_law_33 (by decide) (by decide) rfl rfl (lc_house hE hI hi K)
  | 2, _ => exact lv_tableIn (off := 215) (tgt := 248) hE.1 hE.2.1 dL_law_33 (by decide) (by decide) rfl rfl (lc_bind hE hI hi K)
  | 3, _ => exact lv_tableIn (off := 258) (tgt := 291) hE.1 hE.2.1 dL_law_33 (by decide) (by decide) rfl rfl (lc_told hE hI hi K)
  | 4, _ => exact lv_tableIn (off := 291) (tgt := 324) hE.1 hE.2.1 dL_law_33 (by decide) (by decide) rfl rfl (lc_feed hE hI hi K)
  | 5, _ => exact lv_tableIn (off := 314) (tgt := 347) hE.1 hE.2.1 dL_law_33 (by decide) (by decide) rfl rfl (lc_text hE hI hi K)
  | 6, _ => exact lv_tableIn (off := 327) (tgt := 360) hE.1 hE.2.1 dL_law_33 (by decide) (by decide) rfl rfl (lc_force hE hI hi K)
  | 7, _ => exact lv_tableIn (off := 350) (tgt := 383) hE.1 hE.2.1 dL_law_33 (by decide) (by decide) rfl rfl (lc_asks hE hI hi K)
  | 8, _ => exact lv_tableIn (off := 393) (tgt := 426) hE.1 hE.2.1 dL_law_33 (by decide) (by decide) rfl rfl (lc_feast hE hI hi K)
  | 9, _ => exact lv_tableIn (off := 406) (tgt := 439) hE.1 hE.2.1 dL_law_33 (by decide) (by decide) rfl rfl (lc_year hE hI hi K)
  | 10, _ => exact lv_tableIn (off := 419) (tgt := 452) hE.1 hE.2.1 dL_law_33 (by decide) (by decide) rfl rfl (lc_street hE hI hi K)
  | 11, _ => exact lv_tableIn (off := 442) (tgt := 475) hE.1 hE.2.1 dL_law_33 (by decide) (by decide) rfl rfl (lc_way hE hI hi K)
  | 12, _ => exact lv_tableIn (off := 475) (tgt := 508) hE.1 hE.2.1 dL_law_33 (by decide) (by decide) rfl rfl (lc_run hE hI hi K)
  | 13, _ => exact lv_tableIn (off := 508) (tgt := 541) hE.1 hE.2.1 dL_law_33 (by decide) (by decide) rfl rfl (lc_takes hE hI hi K)
  | 14, _ => exact lv_tableIn (off := 531) (tgt := 564) hE.1 hE.2.1 dL_law_33 (by decide) (by decide) rfl rfl (lc_best hE hI hi K)
  | 15, _ => exact lv_tableIn (off := 574) (tgt := 607) hE.1 hE.2.1 dL_law_33 (by decide) (by decide) rfl rfl (lc_change hE hI hi K)
  | 16, _ => exact lv_tableIn (off := 607) (tgt := 640) hE.1 hE.2.1 dL_law_33 (by decide) (by decide) rfl rfl (lc_split hE hI hi K)
  | 17, _ => exact lv_tableIn (off := 640) (tgt := 673) hE.1 hE.2.1 dL_law_33 (by decide) (by decide) rfl rfl (lc_missed hE hI hi K)
  | 18, _ => exact lv_tableIn (off := 663) (tgt := 696) hE.1 hE.2.1 dL_law_33 (by decide) (by decide) rfl rfl (lc_match hE hI hi K)
  | 19, _ => exact lv_tableIn (off := 686) (tgt := 719) hE.1 hE.2.1 dL_law_33 (by decide) (by decide) rfl rfl (lc_tells hE hI hi K)
  | 20, _ => exact lv_tableIn (off := 729) (tgt := 762) hE.1 hE.2.1 dL_law_33 (by decide) (by decide) rfl rfl (lc_film hE hI hi K)
  | 21, _ => exact lv_tableIn (off := 762) (tgt := 795) hE.1 hE.2.1 dL_law_33 (by decide) (by decide) rfl rfl (lc_drawn hE hI hi K)
  | 22, _ => exact lv_tableIn (off := 795) (tgt := 828) hE.1 hE.2.1 dL_law_33 (by decide) (by decide) rfl rfl (lc_chance hE hI hi K)
  | 23, _ => exact lv_tableIn (off := 848) (tgt := 881) hE.1 hE.2.1 dL_law_33 (by decide) (by decide) rfl rfl (lc_image hE hI hi K)
  | 24, _ => exact lv_tableIn (off := 861) (tgt := 894) hE.1 hE.2.1 dL_law_33 (by decide) (by decide) rfl rfl (lc_back hE hI hi K)
  | 25, _ => exact lv_tableIn (off := 874) (tgt := 907) hE.1 hE.2.1 dL_law_33 (by decide) (by decide) rfl rfl (lc_count hE hI hi K)
  | 26, _ => exact lv_tableIn (off := 897) (tgt := 930) hE.1 hE.2.1 dL_law_33 (by decide) (by decide) rfl rfl (lc_sheet hE hI hi K)
  | 27, _ => exact lv_tableIn (off := 940) (tgt := 973) hE.1 hE.2.1 dL_law_33 (by decide) (by decide) rfl rfl (lc_cell hE hI hi K)
  | 28, _ => exact lv_tableIn (off := 983) (tgt := 1016) hE.1 hE.2.1 dL_law_33 (by decide) (by decide) rfl rfl (lc_copy hE hI hi K)
  | 29, _ => exact lv_tableIn (off := 1046) (tgt := 1079) hE.1 hE.2.1 dL_law_33 (by decide) (by decide) rfl rfl (lc_houses hE hI hi K)
  | 30, _ => exact lv_tableIn (off := 1099) (tgt := 1132) hE.1 hE.2.1 dL_law_33 (by decide) (by decide) rfl rfl (lc_taken hE hI hi K)
  | 31, _ => exact lv_tableOut (tgt := 1165) hE.1 hE.2.1 dL_law_33 (by decide) rfl (K _ _ _ _ hI)
  | j + 32, hj => exact absurd hj (by omega)
theorem i6_ofNat (i : Nat) : Int32.ofNat i + Int32.ofInt 6 = Int32.ofNat (i + 6) := by
  rw [Int32.ofNat_add]; rfl
theorem law_loop (hr : meth.sig.returnType = ret) (hlk : meth.locks = false) (hE : lEnv p l e s m b c D cA xa fm) : ∀ (n i0 : Nat) (hC hM : dH) (H : Heap) (locs : List Loc) (ls : Array Slot), L ≤ i0 + n → i0 ≤ L → lW s b D cA fm xs L adx adm hC hM i0 H locs ls cells slots → W p l e room_1 s m #[Value.ref b] below meth c H locs cells slots (lw_Z below #[Value.ref b] s) (F0 m 18 ls []) := by
  intro n
  induction n with
  | zero =>
    intro i0 hC hM H locs ls hn h0 hI
    have hI2 := hI
    obtain ⟨iP, iD, jP, jD, iN, iS, iL, iX, ib, ic, isl, iC, iM, i3, iR⟩ := hI2
    have t1 : (Int32.ofNat i0).toInt = (i0 : Int) := Int32.toInt_ofNat_of_lt (by omega)
    have t2 : (Int32.ofNat L).toInt = (L : Int) := Int32.toInt_ofNat_of_lt (by omega)
    have t3 : (Int32.ofNat L - 6).toInt = (L : Int) - 6 := i_sub t2 (by decide) (by omega) (by omega)
    refine lv_iload_n (x := Int32.ofNat i0) hE.1 hE.2.1 dL_law_18 rfl (iL.2.2 (3, .int (Int32.ofNat i0)) (by simp)) ?_
    refine lv_aload_n (x := b) hE.1 hE.2.1 dL_law_19 rfl (iL.2.2 (0, .ref b) (by simp)) ?_
    refine va_slen hE.1 hE.2.1 iX ib (fun z => Nat.not_le.mpr ib z) iS dL_law_20 ?_
    refine lv_bipush (v := 6) hE.1 hE.2.1 dL_law_21 rfl ?_
    refine lv_isub hE.1 hE.2.1 dL_law_23 ?_
    refine lv_icmp_gt (tgt := 1171) hE.1 hE.2.1 dL_law_24 rfl (fun _ => law_end hr hlk hE iS ⟨ic, isl⟩) (fun z => ?_)
    exact absurd (Int32.lt_iff_toInt_lt.mpr (by rw [t1, t3]; omega)) z
  | succ n ih =>
    intro i0 hC hM H locs ls hn h0 hI
    have hI2 := hI
    obtain ⟨iP, iD, jP, jD, iN, iS, iL, iX, ib, ic, isl, iC, iM, i3, iR⟩ := hI2
    have t1 : (Int32.ofNat i0).toInt = (i0 : Int) := Int32.toInt_ofNat_of_lt (by omega)
    have t2 : (Int32.ofNat L).toInt = (L : Int) := Int32.toInt_ofNat_of_lt (by omega)
    have t3 : (Int32.ofNat L - 6).toInt = (L : Int) - 6 := i_sub t2 (by decide) (by omega) (by omega)
    refine lv_iload_n (x := Int32.ofNat i0) hE.1 hE.2.1 dL_law_18 rfl (iL.2.2 (3, .int (Int32.ofNat i0)) (by simp)) ?_
    refine lv_aload_n (x := b) hE.1 hE.2.1 dL_law_19 rfl (iL.2.2 (0, .ref b) (by simp)) ?_
    refine va_slen hE.1 hE.2.1 iX ib (fun z => Nat.not_le.mpr ib z) iS dL_law_20 ?_
    refine lv_bipush (v := 6) hE.1 hE.2.1 dL_law_21 rfl ?_
    refine lv_isub hE.1 hE.2.1 dL_law_23 ?_
    refine lv_icmp_gt (tgt := 1171) hE.1 hE.2.1 dL_law_24 rfl (fun _ => law_end hr hlk hE iS ⟨ic, isl⟩) (fun z => ?_)
    have hi : i0 + 6 ≤ L := by
      have z2 : ¬ (Int32.ofNat L - 6).toInt < (Int32.ofNat i0).toInt := fun q => z (Int32.lt_iff_toInt_lt.mpr q)
      rw [t1, t3] at z2
      omega
    refine lv_aload_n (x := b) hE.1 hE.2.1 dL_law_27 rfl (iL.2.2 (0, .ref b) (by simp)) ?_
    refine lv_iload_n (x := Int32.ofNat i0) hE.1 hE.2.1 dL_law_28 rfl (iL.2.2 (3, .int (Int32.ofNat i0)) (by simp)) ?_
    have hin : vp_in (Int32.ofNat i0) L ∧ (Int32.ofNat i0).toNatClampNeg = i0 := by
      refine ⟨vp_in_iff.mpr ⟨by omega, by omega⟩, ?_⟩
      show (Int32.ofNat i0).toInt.toNat = i0
      omega
    refine va_sld hE.1 hE.2.1 iX ib (fun z => Nat.not_le.mpr ib z) iS hin.1 dL_law_29 ?_
    rw [hin.2]
    refine lv_bipush (v := 31) hE.1 hE.2.1 dL_law_30 rfl ?_
    refine lv_iand hE.1 hE.2.1 dL_law_32 ?_
    refine law_switch hr hlk hE hI hi (fun gC gM H2 locs2 hI3 => ?_)
    obtain ⟨iP', iD', jP', jD', iN', iS', iL', iX', ib', ic', isl', iC', iM', i3', iR'⟩ := hI3
    refine lv_iinc (k := 0) (v := Int32.ofNat (i0 + 6)) hE.1 hE.2.1 dL_law_1165 iL' rfl (i6_ofNat i0) (by decide) rfl (fun ls' h' => ?_)
    refine lv_goto (tgt := 18) hE.1 hE.2.1 dL_law_1168 rfl ?_
    exact ih (i0 + 6) gC gM H2 locs2 ls' (by omega) hi ⟨iP', iD', jP', jD', iN', iS', h', iX', ib', ic', isl', iC', iM', i3', iR'⟩
end XWHOLE
theorem whole_start {p : Program} {e : Env} {s : State} {m : MethodId} {below : List Frame} {meth : Method} {c : Code} (l : Launch) (hflags : l.flags = flags0) {b L : Nat} {xs : Nat → Int32} (hL : L ≤ 3072) (C0 : lw_At p s m meth c b L xs) : W p l e room_1 s m #[Value.ref b] below meth c s.heap [] 0 0 (lw_Z below #[Value.ref b] s) (entryFrame m ([Value.ref b] : List Value).toArray 4) := by
  obtain ⟨D, cA, xa, fm, hE⟩ := x_start (l := l) (e := e) C0
  obtain ⟨-, -, hr, -, -, -, hX, hbl, hlk, -⟩ := C0
  have hx := hE.1
  have hb := hE.2.1
  have hown := hE.2.2.2.1
  have hts := hE.2.2.2.2.1
  have hK := hE.2.2.2.2.2.1
  have hA : ∀ q, s.heap.size ≤ q → xGe s q := fun _ h => h
  have hS0 : va_S (xGe s) s.heap s.heap [] := ⟨Nat.le_refl _, fun _ _ _ => rfl, fun _ h => by cases h⟩
  rw [lg_entry_eq]
  have h0 : lv_has ((lg_sl [Value.ref b] ++ List.replicate (4 - (lg_sl [Value.ref b]).length) Slot.unset).toArray) 4 [(0, .ref b)] := lv_entry [Value.ref b] (n := 4) (by show 1 ≤ 4; decide)
  generalize ((lg_sl [Value.ref b] ++ List.replicate (4 - (lg_sl [Value.ref b]).length) Slot.unset).toArray) = ls0 at h0 ⊢
  -- the object
  refine va_new (D := D) (Ts := wsL_law) (N := 10) (ci := 6) (ws := []) (fs := lF6) (A := xGe s) (H0 := s.heap) hx hb hts inlX6 (kxT 6) (kx_ok 6 (RX6, TX6, 10) rfl).2.1 hown (hts _ (kr_1 _ (List.mem_of_getElem? (i := 0) rfl))) (hts _ (kr_1 _ (List.mem_of_getElem? (i := 1) rfl))) (hts _ (kr_1 _ (List.mem_of_getElem? (i := 2) rfl))) hK (fun k q h => by simp at h) ⟨fun i j q q' h => by simp at h, fun k q h => by simp at h⟩ hS0 hA rfl lK6 (by decide) (by decide) dL_law_0 (fun q0 H1 hP1 hD1 hS1 => ?_)
  have hq0 : xGe s q0 := hD1.2 0 _ rfl
  refine lv_dup hx hb dL_law_3 rfl ?_
  refine law_init (k := xK) (d := 13) (j := 65) (ci := 6) (fs := lF6) (C0 := xC0) (rest := [.ref q0]) hE (by decide) lj_x rfl (xmade_ok xC0_ok) (by decide) rfl lmap6 hP1 hq0 hS1 h0.1 (by show 1 + 0 ≤ 8; decide) ⟨by decide, by decide⟩ dL_law_4 (kr_1 _ (List.mem_of_getElem? (i := 6) rfl)) (fun H2 locs2 n2 k2 hS2 iP iD => ?_)
  refine lv_astore_n (i := 1) (lv' := [(1, .ref q0), (0, .ref b)]) (x := q0) hx hb dL_law_7 rfl h0 (by decide) rfl (fun ls1 h1 => ?_)
  -- the other
  refine va_new (D := D) (Ts := wsL_law) (N := 47) (ci := 7) (ws := xenc cA (xv (xadr 1 H1.size (fun _ => q0) xa) (fun _ => 0) fm) (xadr 1 H1.size (fun _ => q0) xa) xC0) (fs := lF7) (A := xGe s) (H0 := s.heap) hx hb hts inlX7 (kxT 7) (kx_ok 7 (RX7, TX7, 47) rfl).2.1 hown (hts _ (kr_1 _ (List.mem_of_getElem? (i := 3) rfl))) (hts _ (kr_1 _ (List.mem_of_getElem? (i := 4) rfl))) (hts _ (kr_1 _ (List.mem_of_getElem? (i := 5) rfl))) hK iP iD hS2 hA rfl lK7 (by decide) (by decide) dL_law_8 (fun q1 H3 hP3 hD3 hS3 => ?_)
  generalize hadx : xadr 1 H1.size (fun _ => q0) xa = adx at iP iD hP3 hD3
  have hadx0 : adx 0 = q0 := by rw [← hadx]; rfl
  have hlen : (xenc cA (xv adx (fun _ => 0) fm) adx xC0).length = xC0.length := by unfold xenc; rw [List.length_mapIdx]
  have hat : (xenc cA (xv adx (fun _ => 0) fm) adx xC0 ++ [(q1, (.inr (7, lF7) : va_E))])[xC0.length]? = some (q1, .inr (7, lF7)) := by
    rw [List.getElem?_append_right (Nat.le_of_eq hlen), hlen, Nat.sub_self]; rfl
  have hin : ∀ (k : Nat) (q : Nat × va_E), (xenc cA (xv adx (fun _ => 0) fm) adx xC0)[k]? = some q → (xenc cA (xv adx (fun _ => 0) fm) adx xC0 ++ [(q1, (.inr (7, lF7) : va_E))])[k]? = some q := fun k q h => by
    rw [List.getElem?_append_left (List.getElem?_eq_some_iff.mp h).1]; exact h
  have hq1 : xGe s q1 := hD3.2 _ _ hat
  have hadr : ∀ i, i < xC0.length → adx i < H3.size ∧ adx i ≠ q1 := by
    intro i hi
    have hg := xenc_get (cA := cA) (V := xv adx (fun _ => 0) fm) (ad := adx) (List.getElem?_eq_getElem hi)
    have hg2 := hin _ _ hg
    refine ⟨(hP3 _ _ hg2).lt, fun hne => ?_⟩
    have := hD3.1 _ _ _ _ hg2 hat hne
    omega
  refine lv_dup hx hb dL_law_11 rfl ?_
  refine law_init (k := xK) (d := 13) (j := 120) (ci := 7) (fs := lF7) (C0 := xM0) (q0 := q1) (rest := [.ref q1]) hE (by decide) lj_m rfl (xmade_ok xM0_ok) (by decide) rfl lmap7 (fun k q h => ?_) hq1 hS3 h1.1 (by show 1 + 0 ≤ 8; decide) ⟨by decide, by decide⟩ dL_law_12 (kr_10 _ (List.mem_of_getElem? (i := 17) rfl)) (fun H4 locs4 n4 k4 hS4 jP jD => ?_)
  · match k, h with
    | 0, h => cases h; exact hP3 _ _ hat
    | k + 1, h => simp at h
  generalize hadm : xadr 1 H3.size (fun _ => q1) xa = adm at jP jD
  have hadm0 : adm 0 = q1 := by rw [← hadm]; rfl
  have iP4 : va_P D vwCl (xenc cA (xv adx (fun _ => 0) fm) adx xC0) H4 := fun k q hq => (hP3 k q (hin k q hq)).kept (by
    obtain ⟨cq, hcq, hez⟩ := xenc_of hq
    have hkl := (List.getElem?_eq_some_iff.mp hcq).1
    have e1 : q.1 = adx k := congrArg Prod.fst hez
    rw [e1]
    exact k4 _ (hadr k hkl).1 (hadr k hkl).2)
  have hdis : ∀ i, i < xC0.length → ∀ k, k < xM0.length → adm k ≠ adx i := by
    intro i hi k hk hne
    have hk2 : k < xB := Nat.lt_of_lt_of_le hk (show xM0.length ≤ xB by rw [xM0_d, dC_len]; exact hbM)
    obtain ⟨a1, a2⟩ := hadr i hi
    by_cases hk0 : k = 0
    · rw [hk0, hadm0] at hne; exact a2 hne.symm
    · rw [← hadm] at hne
      unfold xadr at hne
      rw [if_neg (by omega), if_pos hk2] at hne
      omega
  refine lv_astore_n (i := 2) (lv' := [(2, .ref q1), (1, .ref q0), (0, .ref b)]) (x := q1) hx hb dL_law_15 rfl h1 (by decide) rfl (fun ls2 h2 => ?_)
  refine lv_iconst (v := 0) hx hb dL_law_16 rfl ?_
  refine lv_istore_n (i := 3) (lv' := [(3, .int 0), (2, .ref q1), (1, .ref q0), (0, .ref b)]) (x := 0) hx hb dL_law_17 rfl h2 (by decide) rfl (fun ls3 h3 => ?_)
  rw [xC0_d] at iP4 iD
  rw [xM0_d] at jP jD
  have hdis' : ∀ i, i < shC.length → ∀ k, k < shM.length → adm k ≠ adx i := fun i hi k hk => hdis i (by rw [xC0_d, dC_len]; exact hi) k (by rw [xM0_d, dC_len]; exact hk)
  exact law_loop (adx := adx) (adm := adm) (L := L) (xs := xs) hr hlk hE L 0 (hOf xC0) (hOf xM0) H4 locs4 ls3 (by omega) (by omega) ⟨iP4, iD, jP, jD, hdis', hS4, by rw [hadx0, hadm0]; exact h3, hX, hbl, by decide, by decide, invC_0, invM_0, hL, RR0⟩
end
