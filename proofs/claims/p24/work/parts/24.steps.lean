/-! THE STEPS, for runs on heaps that are functions: what is behind a method's bytecode is read off as a Lean function; each row here turns one instruction -/
noncomputable section
abbrev dH : Type := Nat → Nat → Int32
abbrev dSh : Type := List (Nat × List Nat)
def dtx (x : Int32) : Nat := 10 + 4 * (x.toInt.toNat % 6)
/-- what a slot of a kind holds: a number, a long, a text, always this number, always this reference -/
def ddec (kd : Nat) (x : Int32) : Value := match kd with
  | 0 => .int x
  | 1 => .long x.toInt64
  | 2 => .ref (dtx x)
  | n + 3 => if n < 6 then .int (Int32.ofNat n) else .ref (n - 6)
theorem ddec_ref (b : Nat) (x : Int32) : ddec (b + 9) x = .ref b := by
  show (if b + 6 < 6 then Value.int (Int32.ofNat (b + 6)) else Value.ref (b + 6 - 6)) = _
  rw [if_neg (by omega), Nat.add_sub_cancel]
theorem ddec_num {n : Nat} (h : n < 6) (x : Int32) : ddec (n + 3) x = .int (Int32.ofNat n) := if_pos h
def dcell (f : Nat → Int32) (ks : List Nat) : List Value := ks.mapIdx fun k kd => ddec kd (f k)
def dC (sh : dSh) (h : dH) : List xCel := sh.mapIdx fun a q => (q.1, dcell (h a) q.2)
def dU (h : dH) (a k : Nat) (x : Int32) : dH := fun b j => if b = a ∧ j = k then x else h b j
theorem dcell_len (f : Nat → Int32) (ks : List Nat) : (dcell f ks).length = ks.length := by simp [dcell]
theorem dC_get {sh : dSh} {h : dH} {a t : Nat} {ks : List Nat} (hs : sh[a]? = some (t, ks)) : xnth (dC sh h) a = some (t, dcell (h a) ks) := by
  rw [xnth_eq]; simp [dC, hs]
theorem dcell_get {f : Nat → Int32} {ks : List Nat} {k kd : Nat} (hk : ks[k]? = some kd) : xnth (dcell f ks) k = some (ddec kd (f k)) := by
  rw [xnth_eq]; simp [dcell, hk]
theorem dcell_set {f : Nat → Int32} {ks : List Nat} {k kd : Nat} (hk : ks[k]? = some kd) (x : Int32) : (dcell f ks).set k (ddec kd x) = dcell (fun j => if j = k then x else f j) ks := by
  apply List.ext_getElem?
  intro i
  have hl : k < ks.length := (List.getElem?_eq_some_iff.mp hk).1
  by_cases hi : i = k
  · subst hi
    rw [List.getElem?_set_self (by rw [dcell_len]; exact hl)]
    simp [dcell, hk]
  · rw [List.getElem?_set_ne (Ne.symm hi)]
    simp only [dcell, List.getElem?_mapIdx, if_neg hi]
theorem dC_set {sh : dSh} {h : dH} {a t k kd : Nat} {ks : List Nat} (hs : sh[a]? = some (t, ks)) (hk : ks[k]? = some kd) (x : Int32) : (dC sh h).set a (t, (dcell (h a) ks).set k (ddec kd x)) = dC sh (dU h a k x) := by
  rw [dcell_set hk]
  apply List.ext_getElem?
  intro i
  have hl : a < (dC sh h).length := by
    have := (List.getElem?_eq_some_iff.mp hs).1
    simpa [dC] using this
  by_cases hi : i = a
  · subst hi
    rw [List.getElem?_set_self hl]
    have e : (fun j => if j = k then x else h i j) = dU h i k x i := by funext j; simp [dU]
    simp [dC, hs, e]
  · rw [List.getElem?_set_ne (Ne.symm hi)]
    have e : dU h a k x i = h i := by funext j; simp [dU, hi]
    simp only [dC, List.getElem?_mapIdx, e]
/-- from this frame on the method ends so -/
def dZ (sh : dSh) (d : Nat) (mi : xMI) (pc : Nat) (lo : List (Option Value)) (st : List Value) (h : dH) (r : Option Value) (h' : dH) : Prop := ∃ k, xrun (xexec k d) mi k (pc, lo, st, dC sh h, [], 0, 0) = some [(r, dC sh h', [])]
/-- .. as the function tells -/
def dY (sh : dSh) (d : Nat) (mi : xMI) {α : Type} (ι : α → Option Value × dH) (t : Option α) (pc : Nat) (lo : List (Option Value)) (st : List Value) (h : dH) : Prop := ∀ o, t = some o → dZ sh d mi pc lo st h (ι o).1 (ι o).2
/-- a call ends as the function tells -/
def dX (sh : dSh) (d j : Nat) (as : List Value) {α : Type} (ι : α → Option Value × dH) (t : Option α) (h : dH) : Prop := ∀ o, t = some o → ∃ k, xexec k d j as (dC sh h) [] = some [((ι o).1, dC sh (ι o).2, [])]
def dI (o : Int32 × dH) : Option Value × dH := (some (.int o.1), o.2)
def dP (h : dH) (x : Int32) : Option Value × dH := (some (.int x), h)
def dV (h : dH) : Option Value × dH := (none, h)
def dL (o : Int64 × dH) : Option Value × dH := (some (.long o.1), o.2)
def oI {α : Type} (t : Option (Int32 × dH)) (f : Int32 → dH → Option α) : Option α := match t with
  | none => none
  | some o => f o.1 o.2
def oP {α : Type} (t : Option Int32) (f : Int32 → Option α) : Option α := match t with
  | none => none
  | some o => f o
def oV {α : Type} (t : Option dH) (f : dH → Option α) : Option α := match t with
  | none => none
  | some o => f o
/-- a heap gets a name -/
def oH {α : Type} (h : dH) (f : dH → α) : α := f h
def dshl (x y : Int32) : Int32 := x <<< (y &&& 31)
def dshr (x y : Int32) : Int32 := x >>> (y &&& 31)
def dushr (x y : Int32) : Int32 := (x.toUInt32 >>> (y.toUInt32 &&& Int32.toUInt32 31)).toInt32
def drem (x y : Int32) : Int32 := x - x / y * y
def dmax (x y : Int32) : Int32 := if x < y then y else x
def dmin (x y : Int32) : Int32 := if y < x then y else x
def dabs (x : Int32) : Int32 := if x < 0 then -x else x
def dlcmp (a b : Int64) : Int32 := if a.toInt < b.toInt then -1 else if b.toInt < a.toInt then 1 else 0
def dcopy (h : dH) (s sp d dp n : Nat) : dH := fun a k => if a = d ∧ dp ≤ k ∧ k < dp + n then h s (sp + (k - dp)) else h a k
abbrev dft (mi : xMI) (pc : Nat) : Option (Instr × Nat) := xfetch mi.2.2.2.2.2.2.2.2.2 pc
theorem dstep {mi : xMI} {call pc lo st C rg uc us I len} (hf : dft mi pc = some (I, len)) : xstep call mi (pc, lo, st, C, rg, uc, us) = xstepI call mi.2.2.1 mi.2.2.2.2.1 mi.2.2.2.2.2.1 mi.2.2.2.2.2.2.1 mi.2.2.2.2.2.2.2.1 mi.2.2.2.2.2.2.2.2.1 I len pc lo st C rg uc us := by
  obtain ⟨y, cl, own, na, mx, rk, kd, mc, ms, tb⟩ := mi
  unfold xstep
  simp only [xfN_eq]
  simp only [hf]
theorem xexec_lift (k : Nat) : ∀ d, xLe (xexec k d) (xexec k (d + 1))
  | 0 => fun _ _ _ _ _ h => by cases h
  | d + 1 => fun j as C rg l h => by
    unfold xexec at h ⊢
    split at h
    · next mi hm =>
      try rw [hm]
      try simp only
      split at h
      · next hw =>
        try rw [if_pos hw]
        exact xrun_mono (xexec_lift k d) k 0 _ l h
      · cases h
    · cases h
theorem dX.lift {sh d j as} {α : Type} {ι : α → Option Value × dH} {t : Option α} {h} (hx : dX sh d j as ι t h) : ∀ {e}, d ≤ e → dX sh e j as ι t h := by
  intro e he
  induction he with
  | refl => exact hx
  | step _ ih =>
    intro o ho
    obtain ⟨k, hk⟩ := ih o ho
    exact ⟨k, xexec_lift k _ _ _ _ _ _ hk⟩
section YY
variable {sh : dSh} {d : Nat} {mi : xMI} {α : Type} {ι : α → Option Value × dH} {t A B : Option α} {pc q q' : Nat} {lo lo' : List (Option Value)} {st : List Value} {h : dH} {x y z : Int32} {X Y : Int} {a b : Nat} {u w : Int64}
theorem dY_none : dY sh d mi ι none pc lo st h := fun _ ho => by cases ho
theorem dY_step {pc' lo' st' h'} (hs : ∀ call, xstep call mi (pc, lo, st, dC sh h, [], 0, 0) = some (.inl (pc', lo', st', dC sh h', [], 0, 0))) (hy : dY sh d mi ι t pc' lo' st' h') : dY sh d mi ι t pc lo st h := by
  intro o ho
  obtain ⟨k, hk⟩ := hy o ho
  refine ⟨k + 1, ?_⟩
  rw [xrun_succ, hs]
  exact xrun_mono (xexec_mono k 1 d) k 0 _ _ hk
theorem dY_ite {p : Prop} [Decidable p] (h1 : p → dY sh d mi ι A pc lo st h) (h2 : ¬ p → dY sh d mi ι B pc lo st h) : dY sh d mi ι (if p then A else B) pc lo st h := by
  by_cases hp : p
  · rw [if_pos hp]; exact h1 hp
  · rw [if_neg hp]; exact h2 hp
theorem y_guard {p : Prop} [Decidable p] (h1 : p → dY sh d mi ι A pc lo st h) : dY sh d mi ι (if p then A else none) pc lo st h := dY_ite h1 fun _ => dY_none
/-- the numbers that are written -/
theorem y_iload_n {k len} (hf : dft mi pc = some (.iload_n k, len)) (hl : xnth lo k.val = some (some (.int x))) (hq : pc + 1 = q) (hy : dY sh d mi ι t q lo (.int x :: st) h) : dY sh d mi ι t pc lo st h := dY_step (fun call => (dstep hf).trans (by
  subst hq; show xload pc lo st _ _ _ _ _ _ _ = _; unfold xload; rw [hl]; rfl)) hy
theorem y_iload {i len} (hf : dft mi pc = some (.iload i, len)) (hl : xnth lo i = some (some (.int x))) (hq : pc + 2 = q) (hy : dY sh d mi ι t q lo (.int x :: st) h) : dY sh d mi ι t pc lo st h := dY_step (fun call => (dstep hf).trans (by
  subst hq; show xload pc lo st _ _ _ _ _ _ _ = _; unfold xload; rw [hl]; rfl)) hy
theorem y_aload_n {k len} (hf : dft mi pc = some (.aload_n k, len)) (hl : xnth lo k.val = some (some (.ref a))) (hq : pc + 1 = q) (hy : dY sh d mi ι t q lo (.ref a :: st) h) : dY sh d mi ι t pc lo st h := dY_step (fun call => (dstep hf).trans (by
  subst hq; show xload pc lo st _ _ _ _ _ _ _ = _; unfold xload; rw [hl]; rfl)) hy
theorem y_aload {i len} (hf : dft mi pc = some (.aload i, len)) (hl : xnth lo i = some (some (.ref a))) (hq : pc + 2 = q) (hy : dY sh d mi ι t q lo (.ref a :: st) h) : dY sh d mi ι t pc lo st h := dY_step (fun call => (dstep hf).trans (by
  subst hq; show xload pc lo st _ _ _ _ _ _ _ = _; unfold xload; rw [hl]; rfl)) hy
theorem y_lload_n {k len} (hf : dft mi pc = some (.lload_n k, len)) (hl : xnth lo k.val = some (some (.long u))) (hq : pc + 1 = q) (hy : dY sh d mi ι t q lo (.long u :: st) h) : dY sh d mi ι t pc lo st h := dY_step (fun call => (dstep hf).trans (by
  subst hq; show xload pc lo st _ _ _ _ _ _ _ = _; unfold xload; rw [hl]; rfl)) hy
theorem y_lload {i len} (hf : dft mi pc = some (.lload i, len)) (hl : xnth lo i = some (some (.long u))) (hq : pc + 2 = q) (hy : dY sh d mi ι t q lo (.long u :: st) h) : dY sh d mi ι t pc lo st h := dY_step (fun call => (dstep hf).trans (by
  subst hq; show xload pc lo st _ _ _ _ _ _ _ = _; unfold xload; rw [hl]; rfl)) hy
end YY
end
