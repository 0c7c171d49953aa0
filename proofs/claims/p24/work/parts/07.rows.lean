/-! each instruction of the engine is the machine's -/
def xtyE (k : Nat) : FieldType := match k with
  | 0 => .int
  | 1 => .boolean
  | 2 => .object RX5
  | 3 => .object RX2
  | _ => .array .int
def xtys (cA : Nat → ClassId) : List (ClassId × FieldType) := [(cA 100, .int), (cA 101, .boolean), (cA 102, .object RX5), (cA 103, .object RX2), (cA 104, .array .int)]
/-- what lies outside: statics, tables, texts, and what the tables say of rows and of nest mates -/
def xExt (ad : Nat → Nat) (fm : Value) (A : Nat → Prop) (U : State) (H : Heap) : Prop :=
  (∀ q ∈ xStat, va_Z q.1 q.2.1 q.2.2.1 (xv ad (fun _ => 0) fm q.2.2.2) A U H) ∧
  (∀ (j : Nat) (l : List Int32), xTab[j]? = some l → va_T .int (ad (xB + j)) l.length (fun n => .int (l.getD n 0)) A U H) ∧
  vk_S 13 (xByt.map List.length) xByt (fun i => ad (xB + 10 + i)) (fun i => ad (xB + 30 + i)) A U H ∧
  (∀ (i : Nat) (q : Nat × Nat × String), xStr[i]? = some q → vk_R (xcn q.1) q.2.1 q.2.2 (ad (xB + 10 + i)) U) ∧
  (va_AO RX5 U ∧ va_AO RX2 U ∧ va_Nw (.arrayOver (.array .int)) U) ∧
  ∀ q ∈ xNest, va_Nw (.methodLinkNest (xcn q.1) q.2.1 q.2.2 "StreetTillTen") U
def xEnv (p : Program) (l : Launch) (e : Env) (R : Room) (s : State) (m : MethodId) (args : Array Value) (below : List Frame) (meth : Method) (c : Code) (D : va_G) (cA : Nat → ClassId) (ad : Nat → Nat) (fm : Value) (A : Nat → Prop) (n0 : Nat) (mi : xMI) : Prop :=
  p.tables.exec = Jvm.exec ∧ c.code = mi.2.1 ∧ c.maxLocals = mi.2.2.2.2.1 ∧ s.vm.findClass (xcn mi.2.2.1) = some m.cls ∧ (∀ w ∈ wsL_law, w.before args s = true) ∧ va_K D vwCl (xtys cA) s ∧ xExt ad fm A s s.heap ∧
  meth.sig.returnType = xrt mi.2.2.2.2.2.1 ∧ meth.locks = false ∧ (mi.2.2.2.2.2.2.1 = 2 → meth.name = "<init>") ∧ (1 ≤ R.frames ∧ 40 ≤ R.locals) ∧ R.cells = mi.2.2.2.2.2.2.2.1 ∧ R.slots = mi.2.2.2.2.2.2.2.2.1 ∧ xokF fm ∧
  (∀ q, s.heap.size ≤ q → A q) ∧ (∀ q, A q → s.heap.size ≤ q ∨ ∃ k, k < n0 ∧ q = ad k) ∧ ∀ k, n0 ≤ k → k < xB → ad k = s.heap.size + (k - n0)
def xRn (p : Program) (l : Launch) (e : Env) (R : Room) (s : State) (m : MethodId) (args : Array Value) (below : List Frame) (meth : Method) (c : Code) (D : va_G) (cA : Nat → ClassId) (ad : Nat → Nat) (ρ : Nat → Int32) (fm : Value) (A : Nat → Prop) (mx n0 mc ms : Nat) (Q : State → Prop) (f : xFr) : Prop :=
  ∀ (H : Heap) (locs : List Loc) (ls : Array Slot), xokR ρ f.2.2.2.2.1 → xLV (xv ad ρ fm) ls mx f.2.1 → va_P D vwCl (xenc cA (xv ad ρ fm) ad f.2.2.2.1) H → va_D A (xenc cA (xv ad ρ fm) ad f.2.2.2.1) → va_S A s.heap H locs → f.2.2.2.1.length = n0 + f.2.2.2.2.2.1 ∧ f.2.2.2.2.2.1 ≤ mc ∧ f.2.2.2.2.2.2 ≤ ms ∧ n0 + f.2.2.2.2.2.1 ≤ xB → W p l e R s m args below meth c H locs f.2.2.2.2.2.1 f.2.2.2.2.2.2 Q (F0 m f.1 ls (f.2.2.1.map (xv ad ρ fm)))
def xGood (K : xFr → Prop) (L : xLf → Prop) (r : xRes) : Prop := match r with
  | none => False
  | some (.inl f) => K f
  | some (.inr (.inl lf)) => L lf
  | some (.inr (.inr fs)) => ∀ f ∈ fs, K f
section XROWS
variable {p : Program} {l : Launch} {e : Env} {R : Room} {s : State} {m : MethodId} {args : Array Value} {below : List Frame} {meth : Method} {c : Code} {D : va_G} {cA : Nat → ClassId} {ad : Nat → Nat} {ρ : Nat → Int32} {fm : Value} {A : Nat → Prop} {n0 : Nat} {mi : xMI} {Q : State → Prop} {L : xLf → Prop}
variable {pc : Nat} {lo : List (Option Value)} {st : List Value} {C : List xCel} {rg : xRG} {uc us : Nat}
theorem z_fork {o : Option (List xRG)} (hc : xokR ρ rg → xcov ρ o) (h : xGood (xRn p l e R s m args below meth c D cA ad ρ fm A mi.2.2.2.2.1 n0 mi.2.2.2.2.2.2.2.1 mi.2.2.2.2.2.2.2.2.1 Q) L (xfork pc lo st C uc us o)) : xRn p l e R s m args below meth c D cA ad ρ fm A mi.2.2.2.2.1 n0 mi.2.2.2.2.2.2.2.1 mi.2.2.2.2.2.2.2.2.1 Q (pc, lo, st, C, rg, uc, us) := by
  intro H locs ls hR hL hP hD hS hn
  cases ho : o with
  | none => rw [ho] at h; exact absurd h id
  | some lr =>
    rw [ho] at h
    obtain ⟨rg', h1, h2⟩ := hc hR lr ho
    have h3 := h (pc, lo, st, C, rg', uc, us) (List.mem_map.mpr ⟨rg', h1, rfl⟩)
    exact h3 H locs ls h2 hL hP hD hS hn
theorem z_jump {off : Int} {t : Nat} (ht : (pc : Int) + off = (t : Int)) (h : xGood (xRn p l e R s m args below meth c D cA ad ρ fm A mi.2.2.2.2.1 n0 mi.2.2.2.2.2.2.2.1 mi.2.2.2.2.2.2.2.2.1 Q) L (xjump pc off lo st C rg uc us)) : xRn p l e R s m args below meth c D cA ad ρ fm A mi.2.2.2.2.1 n0 mi.2.2.2.2.2.2.2.1 mi.2.2.2.2.2.2.2.2.1 Q (t, lo, st, C, rg, uc, us) := by
  unfold xjump xtg at h
  rw [ht] at h
  exact h
theorem z_tg {off : Int} (h : xGood (xRn p l e R s m args below meth c D cA ad ρ fm A mi.2.2.2.2.1 n0 mi.2.2.2.2.2.2.2.1 mi.2.2.2.2.2.2.2.2.1 Q) L (xjump pc off lo st C rg uc us)) : ∃ t : Nat, (pc : Int) + off = (t : Int) ∧ xRn p l e R s m args below meth c D cA ad ρ fm A mi.2.2.2.2.1 n0 mi.2.2.2.2.2.2.2.1 mi.2.2.2.2.2.2.2.2.1 Q (t, lo, st, C, rg, uc, us) := by
  cases ht : (pc : Int) + off with
  | ofNat t => exact ⟨t, rfl, z_jump ht h⟩
  | negSucc t =>
    unfold xjump xtg at h
    rw [ht] at h
    exact absurd h id
-- loads
theorem z_load {ok : Value → Bool} {i len : Nat} (h : xGood (xRn p l e R s m args below meth c D cA ad ρ fm A mi.2.2.2.2.1 n0 mi.2.2.2.2.2.2.2.1 mi.2.2.2.2.2.2.2.2.1 Q) L (xload pc lo st C rg uc us ok i len)) : ∃ v, lo[i]? = some (some v) ∧ ok v = true ∧ xRn p l e R s m args below meth c D cA ad ρ fm A mi.2.2.2.2.1 n0 mi.2.2.2.2.2.2.2.1 mi.2.2.2.2.2.2.2.2.1 Q (pc + len, lo, v :: st, C, rg, uc, us) := by
  unfold xload at h
  rw [xnth_eq] at h
  split at h
  · next v hv =>
    split at h
    · next ho => exact ⟨v, hv, ho, h⟩
    · exact absurd h id
  · exact absurd h id
theorem z_iload_n (hE : xEnv p l e R s m args below meth c D cA ad fm A n0 mi) {k : Fin 4} (hdg : decode mi.2.1 pc = .ok (.iload_n k, 1)) (h : xGood (xRn p l e R s m args below meth c D cA ad ρ fm A mi.2.2.2.2.1 n0 mi.2.2.2.2.2.2.2.1 mi.2.2.2.2.2.2.2.2.1 Q) L (xload pc lo st C rg uc us xisI k.val 1)) : xRn p l e R s m args below meth c D cA ad ρ fm A mi.2.2.2.2.1 n0 mi.2.2.2.2.2.2.2.1 mi.2.2.2.2.2.2.2.2.1 Q (pc, lo, st, C, rg, uc, us) := by
  obtain ⟨v, hv, hi, hk⟩ := z_load h
  intro H locs ls hR hL hP hD hS hn
  obtain ⟨x, ex⟩ := xv_I (ad := ad) (ρ := ρ) (fm := fm) hi
  have hl := hL.2.2 _ _ hv
  rw [ex] at hl
  have h2 := hk H locs ls hR hL hP hD hS hn
  simp only [List.map_cons, ex] at h2
  exact lv_iload_n hE.1 hE.2.1 hdg rfl hl h2
theorem z_iload (hE : xEnv p l e R s m args below meth c D cA ad fm A n0 mi) {i : Nat} (hdg : decode mi.2.1 pc = .ok (.iload i, 2)) (h : xGood (xRn p l e R s m args below meth c D cA ad ρ fm A mi.2.2.2.2.1 n0 mi.2.2.2.2.2.2.2.1 mi.2.2.2.2.2.2.2.2.1 Q) L (xload pc lo st C rg uc us xisI i 2)) : xRn p l e R s m args below meth c D cA ad ρ fm A mi.2.2.2.2.1 n0 mi.2.2.2.2.2.2.2.1 mi.2.2.2.2.2.2.2.2.1 Q (pc, lo, st, C, rg, uc, us) := by
  obtain ⟨v, hv, hi, hk⟩ := z_load h
  intro H locs ls hR hL hP hD hS hn
  obtain ⟨x, ex⟩ := xv_I (ad := ad) (ρ := ρ) (fm := fm) hi
  have hl := hL.2.2 _ _ hv
  rw [ex] at hl
  have h2 := hk H locs ls hR hL hP hD hS hn
  simp only [List.map_cons, ex] at h2
  exact lv_iload hE.1 hE.2.1 hdg hl h2
theorem z_lload_n (hE : xEnv p l e R s m args below meth c D cA ad fm A n0 mi) {k : Fin 4} (hdg : decode mi.2.1 pc = .ok (.lload_n k, 1)) (h : xGood (xRn p l e R s m args below meth c D cA ad ρ fm A mi.2.2.2.2.1 n0 mi.2.2.2.2.2.2.2.1 mi.2.2.2.2.2.2.2.2.1 Q) L (xload pc lo st C rg uc us xisL k.val 1)) : xRn p l e R s m args below meth c D cA ad ρ fm A mi.2.2.2.2.1 n0 mi.2.2.2.2.2.2.2.1 mi.2.2.2.2.2.2.2.2.1 Q (pc, lo, st, C, rg, uc, us) := by
  obtain ⟨v, hv, hi, hk⟩ := z_load h
  intro H locs ls hR hL hP hD hS hn
  obtain ⟨x, ex⟩ := xv_L (ad := ad) (ρ := ρ) (fm := fm) hi
  have hl := hL.2.2 _ _ hv
  rw [ex] at hl
  have h2 := hk H locs ls hR hL hP hD hS hn
  simp only [List.map_cons, ex] at h2
  exact lv_lload_n hE.1 hE.2.1 hdg rfl hl h2
theorem z_lload (hE : xEnv p l e R s m args below meth c D cA ad fm A n0 mi) {i : Nat} (hdg : decode mi.2.1 pc = .ok (.lload i, 2)) (h : xGood (xRn p l e R s m args below meth c D cA ad ρ fm A mi.2.2.2.2.1 n0 mi.2.2.2.2.2.2.2.1 mi.2.2.2.2.2.2.2.2.1 Q) L (xload pc lo st C rg uc us xisL i 2)) : xRn p l e R s m args below meth c D cA ad ρ fm A mi.2.2.2.2.1 n0 mi.2.2.2.2.2.2.2.1 mi.2.2.2.2.2.2.2.2.1 Q (pc, lo, st, C, rg, uc, us) := by
  obtain ⟨v, hv, hi, hk⟩ := z_load h
  intro H locs ls hR hL hP hD hS hn
  obtain ⟨x, ex⟩ := xv_L (ad := ad) (ρ := ρ) (fm := fm) hi
  have hl := hL.2.2 _ _ hv
  rw [ex] at hl
  have h2 := hk H locs ls hR hL hP hD hS hn
  simp only [List.map_cons, ex] at h2
  exact lv_lload hE.1 hE.2.1 hdg hl h2
theorem z_F (hE : xEnv p l e R s m args below meth c D cA ad fm A n0 mi) : xokF fm := hE.2.2.2.2.2.2.2.2.2.2.2.2.2.1
theorem z_aload_n (hE : xEnv p l e R s m args below meth c D cA ad fm A n0 mi) {k : Fin 4} (hdg : decode mi.2.1 pc = .ok (.aload_n k, 1)) (h : xGood (xRn p l e R s m args below meth c D cA ad ρ fm A mi.2.2.2.2.1 n0 mi.2.2.2.2.2.2.2.1 mi.2.2.2.2.2.2.2.2.1 Q) L (xload pc lo st C rg uc us xisR k.val 1)) : xRn p l e R s m args below meth c D cA ad ρ fm A mi.2.2.2.2.1 n0 mi.2.2.2.2.2.2.2.1 mi.2.2.2.2.2.2.2.2.1 Q (pc, lo, st, C, rg, uc, us) := by
  obtain ⟨v, hv, hi, hk⟩ := z_load h
  intro H locs ls hR hL hP hD hS hn
  have hl := hL.2.2 _ _ hv
  have h2 := hk H locs ls hR hL hP hD hS hn
  rcases xv_R (ad := ad) (ρ := ρ) (z_F hE) hi with ex | ⟨x, ex⟩
  · rw [ex] at hl
    simp only [List.map_cons, ex] at h2
    exact lv_aload_nN hE.1 hE.2.1 hdg rfl hl h2
  · rw [ex] at hl
    simp only [List.map_cons, ex] at h2
    exact lv_aload_n hE.1 hE.2.1 hdg rfl hl h2
theorem z_aload (hE : xEnv p l e R s m args below meth c D cA ad fm A n0 mi) {i : Nat} (hdg : decode mi.2.1 pc = .ok (.aload i, 2)) (h : xGood (xRn p l e R s m args below meth c D cA ad ρ fm A mi.2.2.2.2.1 n0 mi.2.2.2.2.2.2.2.1 mi.2.2.2.2.2.2.2.2.1 Q) L (xload pc lo st C rg uc us xisR i 2)) : xRn p l e R s m args below meth c D cA ad ρ fm A mi.2.2.2.2.1 n0 mi.2.2.2.2.2.2.2.1 mi.2.2.2.2.2.2.2.2.1 Q (pc, lo, st, C, rg, uc, us) := by
  obtain ⟨v, hv, hi, hk⟩ := z_load h
  intro H locs ls hR hL hP hD hS hn
  have hl := hL.2.2 _ _ hv
  have h2 := hk H locs ls hR hL hP hD hS hn
  rcases xv_R (ad := ad) (ρ := ρ) (z_F hE) hi with ex | ⟨x, ex⟩
  · rw [ex] at hl
    simp only [List.map_cons, ex] at h2
    exact lv_aloadN hE.1 hE.2.1 hdg hl h2
  · rw [ex] at hl
    simp only [List.map_cons, ex] at h2
    exact lv_aload hE.1 hE.2.1 hdg hl h2
-- stores
theorem z_store1 {ok : Value → Bool} {mx i len : Nat} (h : xGood (xRn p l e R s m args below meth c D cA ad ρ fm A mi.2.2.2.2.1 n0 mi.2.2.2.2.2.2.2.1 mi.2.2.2.2.2.2.2.2.1 Q) L (xstore1 pc lo st C rg uc us ok mx i len)) : ∃ v r, st = v :: r ∧ ok v = true ∧ i < mx ∧ xRn p l e R s m args below meth c D cA ad ρ fm A mi.2.2.2.2.1 n0 mi.2.2.2.2.2.2.2.1 mi.2.2.2.2.2.2.2.2.1 Q (pc + len, xs1 lo i v, r, C, rg, uc, us) := by
  unfold xstore1 at h
  split at h
  · next v r =>
    split at h
    · next ho =>
      split at h
      · next hi => rw [xst1_eq] at h; exact ⟨v, r, rfl, ho, hi, h⟩
      · exact absurd h id
    · exact absurd h id
  · exact absurd h id
theorem z_istore_n (hE : xEnv p l e R s m args below meth c D cA ad fm A n0 mi) {k : Fin 4} (hdg : decode mi.2.1 pc = .ok (.istore_n k, 1)) (h : xGood (xRn p l e R s m args below meth c D cA ad ρ fm A mi.2.2.2.2.1 n0 mi.2.2.2.2.2.2.2.1 mi.2.2.2.2.2.2.2.2.1 Q) L (xstore1 pc lo st C rg uc us xisI mi.2.2.2.2.1 k.val 1)) : xRn p l e R s m args below meth c D cA ad ρ fm A mi.2.2.2.2.1 n0 mi.2.2.2.2.2.2.2.1 mi.2.2.2.2.2.2.2.2.1 Q (pc, lo, st, C, rg, uc, us) := by
  obtain ⟨v, r, rfl, hi, hm, hk⟩ := z_store1 h
  intro H locs ls hR hL hP hD hS hn
  obtain ⟨x, ex⟩ := xv_I (ad := ad) (ρ := ρ) (fm := fm) hi
  simp only [List.map_cons, ex]
  refine lv_istore_n hE.1 hE.2.1 hdg rfl hL.has hm rfl (fun ls' hl' => hk H locs ls' hR (xLV_st1 (z_F hE) ?_) hP hD hS hn)
  rw [ex]
  exact hl'
theorem z_istore (hE : xEnv p l e R s m args below meth c D cA ad fm A n0 mi) {i : Nat} (hdg : decode mi.2.1 pc = .ok (.istore i, 2)) (h : xGood (xRn p l e R s m args below meth c D cA ad ρ fm A mi.2.2.2.2.1 n0 mi.2.2.2.2.2.2.2.1 mi.2.2.2.2.2.2.2.2.1 Q) L (xstore1 pc lo st C rg uc us xisI mi.2.2.2.2.1 i 2)) : xRn p l e R s m args below meth c D cA ad ρ fm A mi.2.2.2.2.1 n0 mi.2.2.2.2.2.2.2.1 mi.2.2.2.2.2.2.2.2.1 Q (pc, lo, st, C, rg, uc, us) := by
  obtain ⟨v, r, rfl, hi, hm, hk⟩ := z_store1 h
  intro H locs ls hR hL hP hD hS hn
  obtain ⟨x, ex⟩ := xv_I (ad := ad) (ρ := ρ) (fm := fm) hi
  simp only [List.map_cons, ex]
  refine lv_istore hE.1 hE.2.1 hdg hL.has hm rfl (fun ls' hl' => hk H locs ls' hR (xLV_st1 (z_F hE) ?_) hP hD hS hn)
  rw [ex]
  exact hl'
theorem z_astore_n (hE : xEnv p l e R s m args below meth c D cA ad fm A n0 mi) {k : Fin 4} (hdg : decode mi.2.1 pc = .ok (.astore_n k, 1)) (h : xGood (xRn p l e R s m args below meth c D cA ad ρ fm A mi.2.2.2.2.1 n0 mi.2.2.2.2.2.2.2.1 mi.2.2.2.2.2.2.2.2.1 Q) L (xstore1 pc lo st C rg uc us xisR mi.2.2.2.2.1 k.val 1)) : xRn p l e R s m args below meth c D cA ad ρ fm A mi.2.2.2.2.1 n0 mi.2.2.2.2.2.2.2.1 mi.2.2.2.2.2.2.2.2.1 Q (pc, lo, st, C, rg, uc, us) := by
  obtain ⟨v, r, rfl, hi, hm, hk⟩ := z_store1 h
  intro H locs ls hR hL hP hD hS hn
  rcases xv_R (ad := ad) (ρ := ρ) (z_F hE) hi with ex | ⟨x, ex⟩
  · simp only [List.map_cons, ex]
    refine lv_astore_nN hE.1 hE.2.1 hdg rfl hL.has hm rfl (fun ls' hl' => hk H locs ls' hR (xLV_st1 (z_F hE) ?_) hP hD hS hn)
    rw [ex]
    exact hl'
  · simp only [List.map_cons, ex]
    refine lv_astore_n hE.1 hE.2.1 hdg rfl hL.has hm rfl (fun ls' hl' => hk H locs ls' hR (xLV_st1 (z_F hE) ?_) hP hD hS hn)
    rw [ex]
    exact hl'
theorem z_astore (hE : xEnv p l e R s m args below meth c D cA ad fm A n0 mi) {i : Nat} (hdg : decode mi.2.1 pc = .ok (.astore i, 2)) (h : xGood (xRn p l e R s m args below meth c D cA ad ρ fm A mi.2.2.2.2.1 n0 mi.2.2.2.2.2.2.2.1 mi.2.2.2.2.2.2.2.2.1 Q) L (xstore1 pc lo st C rg uc us xisR mi.2.2.2.2.1 i 2)) : xRn p l e R s m args below meth c D cA ad ρ fm A mi.2.2.2.2.1 n0 mi.2.2.2.2.2.2.2.1 mi.2.2.2.2.2.2.2.2.1 Q (pc, lo, st, C, rg, uc, us) := by
  obtain ⟨v, r, rfl, hi, hm, hk⟩ := z_store1 h
  intro H locs ls hR hL hP hD hS hn
  rcases xv_R (ad := ad) (ρ := ρ) (z_F hE) hi with ex | ⟨x, ex⟩
  · simp only [List.map_cons, ex]
    refine lv_astoreN hE.1 hE.2.1 hdg hL.has hm rfl (fun ls' hl' => hk H locs ls' hR (xLV_st1 (z_F hE) ?_) hP hD hS hn)
    rw [ex]
    exact hl'
  · simp only [List.map_cons, ex]
    refine lv_astore hE.1 hE.2.1 hdg hL.has hm rfl (fun ls' hl' => hk H locs ls' hR (xLV_st1 (z_F hE) ?_) hP hD hS hn)
    rw [ex]
    exact hl'
theorem z_store2 {mx i len : Nat} (h : xGood (xRn p l e R s m args below meth c D cA ad ρ fm A mi.2.2.2.2.1 n0 mi.2.2.2.2.2.2.2.1 mi.2.2.2.2.2.2.2.2.1 Q) L (xstore2 pc lo st C rg uc us mx i len)) : ∃ v r, st = v :: r ∧ xisL v = true ∧ i + 1 < mx ∧ xRn p l e R s m args below meth c D cA ad ρ fm A mi.2.2.2.2.1 n0 mi.2.2.2.2.2.2.2.1 mi.2.2.2.2.2.2.2.2.1 Q (pc + len, (xs1 lo i v).set (i + 1) none, r, C, rg, uc, us) := by
  unfold xstore2 at h
  split at h
  · next v r =>
    split at h
    · next ho =>
      split at h
      · next hi => rw [xst2_eq] at h; exact ⟨v, r, rfl, ho, hi, h⟩
      · exact absurd h id
    · exact absurd h id
  · exact absurd h id
theorem z_lstore_n (hE : xEnv p l e R s m args below meth c D cA ad fm A n0 mi) {k : Fin 4} (hdg : decode mi.2.1 pc = .ok (.lstore_n k, 1)) (h : xGood (xRn p l e R s m args below meth c D cA ad ρ fm A mi.2.2.2.2.1 n0 mi.2.2.2.2.2.2.2.1 mi.2.2.2.2.2.2.2.2.1 Q) L (xstore2 pc lo st C rg uc us mi.2.2.2.2.1 k.val 1)) : xRn p l e R s m args below meth c D cA ad ρ fm A mi.2.2.2.2.1 n0 mi.2.2.2.2.2.2.2.1 mi.2.2.2.2.2.2.2.2.1 Q (pc, lo, st, C, rg, uc, us) := by
  obtain ⟨v, r, rfl, hi, hm, hk⟩ := z_store2 h
  intro H locs ls hR hL hP hD hS hn
  obtain ⟨x, ex⟩ := xv_L (ad := ad) (ρ := ρ) (fm := fm) hi
  simp only [List.map_cons, ex]
  refine lv_lstore_n hE.1 hE.2.1 hdg rfl hL.has hm rfl (fun ls' hl' => hk H locs ls' hR (xLV_st2 (z_F hE) ?_) hP hD hS hn)
  rw [ex]
  exact hl'
theorem z_lstore (hE : xEnv p l e R s m args below meth c D cA ad fm A n0 mi) {i : Nat} (hdg : decode mi.2.1 pc = .ok (.lstore i, 2)) (h : xGood (xRn p l e R s m args below meth c D cA ad ρ fm A mi.2.2.2.2.1 n0 mi.2.2.2.2.2.2.2.1 mi.2.2.2.2.2.2.2.2.1 Q) L (xstore2 pc lo st C rg uc us mi.2.2.2.2.1 i 2)) : xRn p l e R s m args below meth c D cA ad ρ fm A mi.2.2.2.2.1 n0 mi.2.2.2.2.2.2.2.1 mi.2.2.2.2.2.2.2.2.1 Q (pc, lo, st, C, rg, uc, us) := by
  obtain ⟨v, r, rfl, hi, hm, hk⟩ := z_store2 h
  intro H locs ls hR hL hP hD hS hn
  obtain ⟨x, ex⟩ := xv_L (ad := ad) (ρ := ρ) (fm := fm) hi
  simp only [List.map_cons, ex]
  refine lv_lstore hE.1 hE.2.1 hdg hL.has hm rfl (fun ls' hl' => hk H locs ls' hR (xLV_st2 (z_F hE) ?_) hP hD hS hn)
  rw [ex]
  exact hl'
-- numbers
theorem z_bin {f : Int32 → Int32 → Option Int32} (row : ∀ (x y z : Int32), f x y = some z → ∀ (H : Heap) (locs : List Loc) (ls : Array Slot) (rest : List Value), W p l e R s m args below meth c H locs uc us Q (F0 m (pc + 1) ls (.int z :: rest)) → W p l e R s m args below meth c H locs uc us Q (F0 m pc ls (.int y :: .int x :: rest))) (h : xGood (xRn p l e R s m args below meth c D cA ad ρ fm A mi.2.2.2.2.1 n0 mi.2.2.2.2.2.2.2.1 mi.2.2.2.2.2.2.2.2.1 Q) L (xbin pc lo st C rg uc us f)) : xRn p l e R s m args below meth c D cA ad ρ fm A mi.2.2.2.2.1 n0 mi.2.2.2.2.2.2.2.1 mi.2.2.2.2.2.2.2.2.1 Q (pc, lo, st, C, rg, uc, us) := by
  unfold xbin at h
  split at h
  · next b a r =>
    split at h
    · next x hx =>
      split at h
      · next y hy =>
        split at h
        · next z hz =>
          rw [xfI_eq] at h
          intro H locs ls hR hL hP hD hS hn
          have e1 := xci_ok (ad := ad) (fm := fm) hR hx
          have e2 := xci_ok (ad := ad) (fm := fm) hR hy
          have h2 := h H locs ls hR hL hP hD hS hn
          simp only [List.map_cons, e1, e2] at h2 ⊢
          exact row x y z hz H locs ls _ h2
        · exact absurd h id
      · exact z_fork (fun hR => xcov_cs hR _) h
    · exact z_fork (fun hR => xcov_cs hR _) h
  · exact absurd h id
theorem z_add (hE : xEnv p l e R s m args below meth c D cA ad fm A n0 mi) (hdg : decode mi.2.1 pc = .ok (.iadd, 1)) (h : xGood (xRn p l e R s m args below meth c D cA ad ρ fm A mi.2.2.2.2.1 n0 mi.2.2.2.2.2.2.2.1 mi.2.2.2.2.2.2.2.2.1 Q) L (xadd pc lo st C rg uc us)) : xRn p l e R s m args below meth c D cA ad ρ fm A mi.2.2.2.2.1 n0 mi.2.2.2.2.2.2.2.1 mi.2.2.2.2.2.2.2.2.1 Q (pc, lo, st, C, rg, uc, us) := by
  have row : ∀ (x y z : Int32), (fun x y => some (x + y)) x y = some z → ∀ (H : Heap) (locs : List Loc) (ls : Array Slot) (rest : List Value), W p l e R s m args below meth c H locs uc us Q (F0 m (pc + 1) ls (.int z :: rest)) → W p l e R s m args below meth c H locs uc us Q (F0 m pc ls (.int y :: .int x :: rest)) := by
    intro x y z hz H locs ls rest k
    cases hz
    exact lv_iadd hE.1 hE.2.1 hdg k
  unfold xadd at h
  split at h
  · next y j r =>
    split at h
    · exact z_bin row h
    · split at h
      · next lr hl => exact z_fork (fun hR => by rw [← hl]; exact xcov_cs hR _) h
      · split at h
        · next hj =>
          intro H locs ls hR hL hP hD hS hn
          have h2 := h H locs ls hR hL hP hD hS hn
          have e1 : xv ad ρ fm (.retAddr (j + 32 * y.toBitVec.toNat)) = .int ((ρ (j % 32 / 2) + Int32.ofNat (j / 32)) + y) := by
            have a1 : (j + 32 * y.toBitVec.toNat) % 2 = 0 := by omega
            have a2 : (j + 32 * y.toBitVec.toNat) % 32 = j % 32 := by omega
            have a3 : (j + 32 * y.toBitVec.toNat) / 32 = j / 32 + y.toBitVec.toNat := by omega
            rw [xv, if_pos a1, a2, a3, Int32.ofNat_add, xfI_ofNat, Int32.add_assoc]
          have e2 : xv ad ρ fm (.retAddr j) = .int (ρ (j % 32 / 2) + Int32.ofNat (j / 32)) := by rw [xv, if_pos hj]
          have e3 : xv ad ρ fm (.int y) = .int y := rfl
          simp only [List.map_cons, e1, e2, e3] at h2 ⊢
          exact lv_iadd hE.1 hE.2.1 hdg h2
        · exact absurd h id
  · exact z_bin row h
theorem z_un {f : Int32 → Int32} (row : ∀ (x : Int32) (H : Heap) (locs : List Loc) (ls : Array Slot) (rest : List Value), W p l e R s m args below meth c H locs uc us Q (F0 m (pc + 1) ls (.int (f x) :: rest)) → W p l e R s m args below meth c H locs uc us Q (F0 m pc ls (.int x :: rest))) (h : xGood (xRn p l e R s m args below meth c D cA ad ρ fm A mi.2.2.2.2.1 n0 mi.2.2.2.2.2.2.2.1 mi.2.2.2.2.2.2.2.2.1 Q) L (xun pc lo st C rg uc us f)) : xRn p l e R s m args below meth c D cA ad ρ fm A mi.2.2.2.2.1 n0 mi.2.2.2.2.2.2.2.1 mi.2.2.2.2.2.2.2.2.1 Q (pc, lo, st, C, rg, uc, us) := by
  unfold xun at h
  split at h
  · next a r =>
    split at h
    · next x hx =>
      rw [xfI_eq] at h
      intro H locs ls hR hL hP hD hS hn
      have e1 := xci_ok (ad := ad) (fm := fm) hR hx
      have h2 := h H locs ls hR hL hP hD hS hn
      simp only [List.map_cons, e1] at h2 ⊢
      exact row x H locs ls _ h2
    · exact z_fork (fun hR => xcov_cs hR _) h
  · exact absurd h id
theorem z_binL {f : Int64 → Int64 → Option Int64} (row : ∀ (x y z : Int64), f x y = some z → ∀ (H : Heap) (locs : List Loc) (ls : Array Slot) (rest : List Value), W p l e R s m args below meth c H locs uc us Q (F0 m (pc + 1) ls (.long z :: rest)) → W p l e R s m args below meth c H locs uc us Q (F0 m pc ls (.long y :: .long x :: rest))) (h : xGood (xRn p l e R s m args below meth c D cA ad ρ fm A mi.2.2.2.2.1 n0 mi.2.2.2.2.2.2.2.1 mi.2.2.2.2.2.2.2.2.1 Q) L (xbinL pc lo st C rg uc us f)) : xRn p l e R s m args below meth c D cA ad ρ fm A mi.2.2.2.2.1 n0 mi.2.2.2.2.2.2.2.1 mi.2.2.2.2.2.2.2.2.1 Q (pc, lo, st, C, rg, uc, us) := by
  unfold xbinL at h
  split at h
  · next b a r =>
    split at h
    · next x hx =>
      split at h
      · next y hy =>
        split at h
        · next z hz =>
          intro H locs ls hR hL hP hD hS hn
          have e1 := xcl_ok (ad := ad) (fm := fm) hR hx
          have e2 := xcl_ok (ad := ad) (fm := fm) hR hy
          have h2 := h H locs ls hR hL hP hD hS hn
          simp only [List.map_cons, e1, e2] at h2 ⊢
          exact row x y z hz H locs ls _ h2
        · exact absurd h id
      · exact absurd h id
    · exact absurd h id
  · exact absurd h id
theorem z_i2l (hE : xEnv p l e R s m args below meth c D cA ad fm A n0 mi) (hdg : decode mi.2.1 pc = .ok (.i2l, 1)) (h : xGood (xRn p l e R s m args below meth c D cA ad ρ fm A mi.2.2.2.2.1 n0 mi.2.2.2.2.2.2.2.1 mi.2.2.2.2.2.2.2.2.1 Q) L (xi2l pc lo st C rg uc us)) : xRn p l e R s m args below meth c D cA ad ρ fm A mi.2.2.2.2.1 n0 mi.2.2.2.2.2.2.2.1 mi.2.2.2.2.2.2.2.2.1 Q (pc, lo, st, C, rg, uc, us) := by
  unfold xi2l at h
  split at h
  · next x r =>
    intro H locs ls hR hL hP hD hS hn
    exact lv_i2l hE.1 hE.2.1 hdg rfl (h H locs ls hR hL hP hD hS hn)
  · next j r =>
    split at h
    · next hj =>
      intro H locs ls hR hL hP hD hS hn
      have h2 := h H locs ls hR hL hP hD hS hn
      have e1 : xv ad ρ fm (.retAddr (j + 1)) = .long (ρ (j % 32 / 2) + Int32.ofNat (j / 32)).toInt64 := by
        have a1 : ¬ (j + 1) % 2 = 0 := by omega
        have a2 : (j + 1) % 32 / 2 = j % 32 / 2 := by omega
        have a3 : (j + 1) / 32 = j / 32 := by omega
        rw [xv, if_neg a1, a2, a3]
      have e2 : xv ad ρ fm (.retAddr j) = .int (ρ (j % 32 / 2) + Int32.ofNat (j / 32)) := by rw [xv, if_pos hj]
      simp only [List.map_cons, e1, e2] at h2 ⊢
      exact lv_i2l hE.1 hE.2.1 hdg rfl h2
    · exact absurd h id
  · exact absurd h id
theorem z_l2i (hE : xEnv p l e R s m args below meth c D cA ad fm A n0 mi) (hdg : decode mi.2.1 pc = .ok (.l2i, 1)) (h : xGood (xRn p l e R s m args below meth c D cA ad ρ fm A mi.2.2.2.2.1 n0 mi.2.2.2.2.2.2.2.1 mi.2.2.2.2.2.2.2.2.1 Q) L (xl2i pc lo st C rg uc us)) : xRn p l e R s m args below meth c D cA ad ρ fm A mi.2.2.2.2.1 n0 mi.2.2.2.2.2.2.2.1 mi.2.2.2.2.2.2.2.2.1 Q (pc, lo, st, C, rg, uc, us) := by
  unfold xl2i at h
  split at h
  · next x r =>
    intro H locs ls hR hL hP hD hS hn
    exact lv_l2i hE.1 hE.2.1 hdg rfl (h H locs ls hR hL hP hD hS hn)
  · next j r =>
    split at h
    · next hj =>
      intro H locs ls hR hL hP hD hS hn
      have h2 := h H locs ls hR hL hP hD hS hn
      have e1 : xv ad ρ fm (.retAddr (j - 1)) = .int (ρ (j % 32 / 2) + Int32.ofNat (j / 32)) := by
        have a1 : (j - 1) % 2 = 0 := by omega
        have a2 : (j - 1) % 32 / 2 = j % 32 / 2 := by omega
        have a3 : (j - 1) / 32 = j / 32 := by omega
        rw [xv, if_pos a1, a2, a3]
      have e2 : xv ad ρ fm (.retAddr j) = .long (ρ (j % 32 / 2) + Int32.ofNat (j / 32)).toInt64 := by rw [xv, if_neg (by omega)]
      simp only [List.map_cons, e1, e2] at h2 ⊢
      exact lv_l2i hE.1 hE.2.1 hdg (by simp) h2
    · exact absurd h id
  · exact absurd h id
theorem z_lcmp (hE : xEnv p l e R s m args below meth c D cA ad fm A n0 mi) (hdg : decode mi.2.1 pc = .ok (.lcmp, 1)) (h : xGood (xRn p l e R s m args below meth c D cA ad ρ fm A mi.2.2.2.2.1 n0 mi.2.2.2.2.2.2.2.1 mi.2.2.2.2.2.2.2.2.1 Q) L (xlcmp pc lo st C rg uc us)) : xRn p l e R s m args below meth c D cA ad ρ fm A mi.2.2.2.2.1 n0 mi.2.2.2.2.2.2.2.1 mi.2.2.2.2.2.2.2.2.1 Q (pc, lo, st, C, rg, uc, us) := by
  unfold xlcmp at h
  split at h
  · next b a r =>
    split at h
    · next ia ha =>
      split at h
      · next ib hb =>
        have go : ∀ v : Int32, (∀ x y : Int64, ia.1 ≤ x.toInt ∧ x.toInt ≤ ia.2 → ib.1 ≤ y.toInt ∧ y.toInt ≤ ib.2 → lg_cmp x y = v) → xRn p l e R s m args below meth c D cA ad ρ fm A mi.2.2.2.2.1 n0 mi.2.2.2.2.2.2.2.1 mi.2.2.2.2.2.2.2.2.1 Q (pc + 1, lo, .int v :: r, C, rg, uc, us) → xRn p l e R s m args below meth c D cA ad ρ fm A mi.2.2.2.2.1 n0 mi.2.2.2.2.2.2.2.1 mi.2.2.2.2.2.2.2.2.1 Q (pc, lo, b :: a :: r, C, rg, uc, us) := by
          intro v hv k H locs ls hR hL hP hD hS hn
          obtain ⟨x, ex, hx⟩ := xlv_ok (ad := ad) (fm := fm) hR ha
          obtain ⟨y, ey, hy⟩ := xlv_ok (ad := ad) (fm := fm) hR hb
          have h2 := k H locs ls hR hL hP hD hS hn
          simp only [List.map_cons, ex, ey] at h2 ⊢
          refine W.lcmp hE.1 hE.2.1 hdg ?_
          rw [hv x y hx hy]
          exact h2
        split at h
        · next h1 =>
          refine go (-1) (fun x y hx hy => ?_) h
          have : ¬ x > y := by rw [gt_iff_lt, Int64.lt_iff_toInt_lt]; omega
          have n2 : ¬ x = y := fun q => by rw [q] at hx; omega
          rw [lg_cmp, if_neg this, if_neg n2]
        · split at h
          · next h1 h2 =>
            refine go 1 (fun x y hx hy => ?_) h
            have : x > y := by rw [gt_iff_lt, Int64.lt_iff_toInt_lt]; omega
            rw [lg_cmp, if_pos this]
          · split at h
            · next h1 h2 h3 =>
              refine go 0 (fun x y hx hy => ?_) h
              have e : x = y := Int64.toInt_inj.mp (by omega)
              have : ¬ x > y := by rw [gt_iff_lt, Int64.lt_iff_toInt_lt, e]; omega
              rw [lg_cmp, if_neg this, if_pos e]
            · exact z_fork (fun hR => xcov_else (xcov_sp hR _ _) (xcov_else (xcov_sp hR _ _) (xcov_else (xcov_sp hR _ _) (xcov_sp hR _ _)))) h
      · exact absurd h id
    · exact absurd h id
  · exact absurd h id
-- branches
theorem z_fall {off : Int} (h : xGood (xRn p l e R s m args below meth c D cA ad ρ fm A mi.2.2.2.2.1 n0 mi.2.2.2.2.2.2.2.1 mi.2.2.2.2.2.2.2.2.1 Q) L (xfall pc off lo st C rg uc us)) : ∃ t : Nat, (pc : Int) + off = (t : Int) ∧ xRn p l e R s m args below meth c D cA ad ρ fm A mi.2.2.2.2.1 n0 mi.2.2.2.2.2.2.2.1 mi.2.2.2.2.2.2.2.2.1 Q (pc + 3, lo, st, C, rg, uc, us) := by
  unfold xfall xtg at h
  cases ht : (pc : Int) + off with
  | ofNat t => rw [ht] at h; exact ⟨t, rfl, h⟩
  | negSucc t => rw [ht] at h; exact absurd h id
theorem z_icmp (hE : xEnv p l e R s m args below meth c D cA ad fm A n0 mi) {cc : ClassFile.Cond} {off : Int} (hdg : decode mi.2.1 pc = .ok (.if_icmp cc off, 3)) (h : xGood (xRn p l e R s m args below meth c D cA ad ρ fm A mi.2.2.2.2.1 n0 mi.2.2.2.2.2.2.2.1 mi.2.2.2.2.2.2.2.2.1 Q) L (xicmp pc lo st C rg uc us cc off)) : xRn p l e R s m args below meth c D cA ad ρ fm A mi.2.2.2.2.1 n0 mi.2.2.2.2.2.2.2.1 mi.2.2.2.2.2.2.2.2.1 Q (pc, lo, st, C, rg, uc, us) := by
  unfold xicmp at h
  split at h
  · next b a r =>
    split at h
    · next ia ha =>
      split at h
      · next ib hb =>
        split at h
        · next hc =>
          obtain ⟨t, ht, k⟩ := z_tg h
          intro H locs ls hR hL hP hD hS hn
          obtain ⟨x, ex, hx⟩ := xiv_ok (ad := ad) (fm := fm) hR ha
          obtain ⟨y, ey, hy⟩ := xiv_ok (ad := ad) (fm := fm) hR hb
          have h2 := k H locs ls hR hL hP hD hS hn
          have hq := (xcmp_ok hc hx hy).mp rfl
          simp only [List.map_cons, ex, ey]
          cases cc with
          | eq => exact lv_icmp_eq hE.1 hE.2.1 hdg ht (fun _ => h2) (fun q => absurd hq q)
          | ne => exact lv_icmp_ne hE.1 hE.2.1 hdg ht (fun _ => h2) (fun q => absurd q hq)
          | lt => exact lv_icmp_lt hE.1 hE.2.1 hdg ht (fun _ => h2) (fun q => absurd hq q)
          | ge => exact lv_icmp_ge hE.1 hE.2.1 hdg ht (fun _ => h2) (fun q => absurd hq q)
          | gt => exact lv_icmp_gt hE.1 hE.2.1 hdg ht (fun _ => h2) (fun q => absurd hq q)
          | le => exact lv_icmp_le hE.1 hE.2.1 hdg ht (fun _ => h2) (fun q => absurd hq q)
        · next hc =>
          obtain ⟨t, ht, k⟩ := z_fall h
          intro H locs ls hR hL hP hD hS hn
          obtain ⟨x, ex, hx⟩ := xiv_ok (ad := ad) (fm := fm) hR ha
          obtain ⟨y, ey, hy⟩ := xiv_ok (ad := ad) (fm := fm) hR hb
          have h2 := k H locs ls hR hL hP hD hS hn
          have hq : ¬ xcP cc x y := fun q => by have := (xcmp_ok hc hx hy).mpr q; cases this
          simp only [List.map_cons, ex, ey]
          cases cc with
          | eq => exact lv_icmp_eq hE.1 hE.2.1 hdg ht (fun q => absurd q hq) (fun _ => h2)
          | ne => exact lv_icmp_ne hE.1 hE.2.1 hdg ht (fun q => absurd q hq) (fun _ => h2)
          | lt => exact lv_icmp_lt hE.1 hE.2.1 hdg ht (fun q => absurd q hq) (fun _ => h2)
          | ge => exact lv_icmp_ge hE.1 hE.2.1 hdg ht (fun q => absurd q hq) (fun _ => h2)
          | gt => exact lv_icmp_gt hE.1 hE.2.1 hdg ht (fun q => absurd q hq) (fun _ => h2)
          | le => exact lv_icmp_le hE.1 hE.2.1 hdg ht (fun q => absurd q hq) (fun _ => h2)
        · exact z_fork (fun hR => xcov_else (xcov_sp hR _ _) (xcov_else (xcov_sp hR _ _) (xcov_else (xcov_sp hR _ _) (xcov_sp hR _ _)))) h
      · exact absurd h id
    · exact absurd h id
  · exact absurd h id
theorem z_if (hE : xEnv p l e R s m args below meth c D cA ad fm A n0 mi) {cc : ClassFile.Cond} {off : Int} (hdg : decode mi.2.1 pc = .ok (.ifCond cc off, 3)) (h : xGood (xRn p l e R s m args below meth c D cA ad ρ fm A mi.2.2.2.2.1 n0 mi.2.2.2.2.2.2.2.1 mi.2.2.2.2.2.2.2.2.1 Q) L (xif pc lo st C rg uc us cc off)) : xRn p l e R s m args below meth c D cA ad ρ fm A mi.2.2.2.2.1 n0 mi.2.2.2.2.2.2.2.1 mi.2.2.2.2.2.2.2.2.1 Q (pc, lo, st, C, rg, uc, us) := by
  have h0 : (((0, 0) : Int × Int).1 ≤ (0 : Int32).toInt ∧ (0 : Int32).toInt ≤ ((0, 0) : Int × Int).2) := ⟨Int.le_refl _, Int.le_refl _⟩
  unfold xif at h
  split at h
  · next a r =>
    split at h
    · next ia ha =>
      split at h
      · next hc =>
        obtain ⟨t, ht, k⟩ := z_tg h
        intro H locs ls hR hL hP hD hS hn
        obtain ⟨x, ex, hx⟩ := xiv_ok (ad := ad) (fm := fm) hR ha
        have h2 := k H locs ls hR hL hP hD hS hn
        have hq := (xcmp_ok hc hx h0).mp rfl
        simp only [List.map_cons, ex]
        cases cc with
        | eq => exact lv_if_eq hE.1 hE.2.1 hdg ht (fun _ => h2) (fun q => absurd hq q)
        | ne => exact lv_if_ne hE.1 hE.2.1 hdg ht (fun _ => h2) (fun q => absurd q hq)
        | lt => exact lv_if_lt hE.1 hE.2.1 hdg ht (fun _ => h2) (fun q => absurd hq q)
        | ge => exact lv_if_ge hE.1 hE.2.1 hdg ht (fun _ => h2) (fun q => absurd hq q)
        | gt => exact lv_if_gt hE.1 hE.2.1 hdg ht (fun _ => h2) (fun q => absurd hq q)
        | le => exact lv_if_le hE.1 hE.2.1 hdg ht (fun _ => h2) (fun q => absurd hq q)
      · next hc =>
        obtain ⟨t, ht, k⟩ := z_fall h
        intro H locs ls hR hL hP hD hS hn
        obtain ⟨x, ex, hx⟩ := xiv_ok (ad := ad) (fm := fm) hR ha
        have h2 := k H locs ls hR hL hP hD hS hn
        have hq : ¬ xcP cc x 0 := fun q => by have := (xcmp_ok hc hx h0).mpr q; cases this
        simp only [List.map_cons, ex]
        cases cc with
        | eq => exact lv_if_eq hE.1 hE.2.1 hdg ht (fun q => absurd q hq) (fun _ => h2)
        | ne => exact lv_if_ne hE.1 hE.2.1 hdg ht (fun q => absurd q hq) (fun _ => h2)
        | lt => exact lv_if_lt hE.1 hE.2.1 hdg ht (fun q => absurd q hq) (fun _ => h2)
        | ge => exact lv_if_ge hE.1 hE.2.1 hdg ht (fun q => absurd q hq) (fun _ => h2)
        | gt => exact lv_if_gt hE.1 hE.2.1 hdg ht (fun q => absurd q hq) (fun _ => h2)
        | le => exact lv_if_le hE.1 hE.2.1 hdg ht (fun q => absurd q hq) (fun _ => h2)
      · exact z_fork (fun hR => xcov_else (xcov_sp hR _ _) (xcov_sp hR _ _)) h
    · exact absurd h id
  · exact absurd h id
theorem z_goto (hE : xEnv p l e R s m args below meth c D cA ad fm A n0 mi) {off : Int} (hdg : decode mi.2.1 pc = .ok (.goto off, 3)) (h : xGood (xRn p l e R s m args below meth c D cA ad ρ fm A mi.2.2.2.2.1 n0 mi.2.2.2.2.2.2.2.1 mi.2.2.2.2.2.2.2.2.1 Q) L (xjump pc off lo st C rg uc us)) : xRn p l e R s m args below meth c D cA ad ρ fm A mi.2.2.2.2.1 n0 mi.2.2.2.2.2.2.2.1 mi.2.2.2.2.2.2.2.2.1 Q (pc, lo, st, C, rg, uc, us) := by
  obtain ⟨t, ht, k⟩ := z_tg h
  intro H locs ls hR hL hP hD hS hn
  exact lv_goto hE.1 hE.2.1 hdg ht (k H locs ls hR hL hP hD hS hn)
theorem z_iinc (hE : xEnv p l e R s m args below meth c D cA ad fm A n0 mi) {i : Nat} {n : Int} (hdg : decode mi.2.1 pc = .ok (.iinc i n, 3)) (h : xGood (xRn p l e R s m args below meth c D cA ad ρ fm A mi.2.2.2.2.1 n0 mi.2.2.2.2.2.2.2.1 mi.2.2.2.2.2.2.2.2.1 Q) L (xiinc pc lo st C rg uc us mi.2.2.2.2.1 i n)) : xRn p l e R s m args below meth c D cA ad ρ fm A mi.2.2.2.2.1 n0 mi.2.2.2.2.2.2.2.1 mi.2.2.2.2.2.2.2.2.1 Q (pc, lo, st, C, rg, uc, us) := by
  unfold xiinc at h
  rw [xnth_eq] at h
  split at h
  · next v hv =>
    split at h
    · next hi =>
      split at h
      · next x hx =>
        rw [xfI_eq, xst1_eq] at h
        intro H locs ls hR hL hP hD hS hn
        have e1 := xci_ok (ad := ad) (fm := fm) hR hx
        obtain ⟨k, hk⟩ := List.getElem?_of_mem (xlist_mem (V := xv ad ρ fm) hv)
        rw [e1] at hk
        refine lv_iinc hE.1 hE.2.1 hdg hL.has hk rfl hi rfl (fun ls' hl' => h H locs ls' hR (xLV_st1 (z_F hE) ?_) hP hD hS hn)
        exact hl'
      · exact z_fork (fun hR => xcov_cs hR _) h
    · exact absurd h id
  · exact absurd h id
theorem z_table (hE : xEnv p l e R s m args below meth c D cA ad fm A n0 mi) {d low hi : Int} {offs : Array Int} {len : Nat} (hdg : decode mi.2.1 pc = .ok (.tableswitch d low hi offs, len)) (h : xGood (xRn p l e R s m args below meth c D cA ad ρ fm A mi.2.2.2.2.1 n0 mi.2.2.2.2.2.2.2.1 mi.2.2.2.2.2.2.2.2.1 Q) L (xtable pc lo st C rg uc us d low hi offs.toList)) : xRn p l e R s m args below meth c D cA ad ρ fm A mi.2.2.2.2.1 n0 mi.2.2.2.2.2.2.2.1 mi.2.2.2.2.2.2.2.2.1 Q (pc, lo, st, C, rg, uc, us) := by
  unfold xtable at h
  split at h
  · next a r =>
    split at h
    · next ia ha =>
      split at h
      · next h1 =>
        obtain ⟨t, ht, k⟩ := z_tg h
        intro H locs ls hR hL hP hD hS hn
        obtain ⟨x, ex, hx⟩ := xiv_ok (ad := ad) (fm := fm) hR ha
        have h2 := k H locs ls hR hL hP hD hS hn
        simp only [List.map_cons, ex]
        exact lv_tableOut hE.1 hE.2.1 hdg (Or.inl (by omega)) ht h2
      · split at h
        · next h1 h3 =>
          obtain ⟨t, ht, k⟩ := z_tg h
          intro H locs ls hR hL hP hD hS hn
          obtain ⟨x, ex, hx⟩ := xiv_ok (ad := ad) (fm := fm) hR ha
          have h2 := k H locs ls hR hL hP hD hS hn
          simp only [List.map_cons, ex]
          exact lv_tableOut hE.1 hE.2.1 hdg (Or.inr (by omega)) ht h2
        · split at h
          · next h1 h3 h4 =>
            split at h
            · next off ho =>
              obtain ⟨t, ht, k⟩ := z_tg h
              intro H locs ls hR hL hP hD hS hn
              obtain ⟨x, ex, hx⟩ := xiv_ok (ad := ad) (fm := fm) hR ha
              have h2 := k H locs ls hR hL hP hD hS hn
              simp only [List.map_cons, ex]
              have e1 : x.toInt = ia.1 := by omega
              rw [xnth_eq, Array.getElem?_toList, ← e1] at ho
              exact lv_tableIn hE.1 hE.2.1 hdg (by omega) (by omega) ho ht h2
            · exact absurd h id
          · exact z_fork (fun hR => xcov_else (xcov_sp hR _ _) (xcov_else (xcov_sp hR _ _) (xcov_sp hR _ _))) h
    · exact absurd h id
  · exact absurd h id
theorem z_look (hE : xEnv p l e R s m args below meth c D cA ad fm A n0 mi) {d : Int} {ps : Array (Int × Int)} {len : Nat} (hdg : decode mi.2.1 pc = .ok (.lookupswitch d ps, len)) (h : xGood (xRn p l e R s m args below meth c D cA ad ρ fm A mi.2.2.2.2.1 n0 mi.2.2.2.2.2.2.2.1 mi.2.2.2.2.2.2.2.2.1 Q) L (xlook pc lo st C rg uc us d ps.toList)) : xRn p l e R s m args below meth c D cA ad ρ fm A mi.2.2.2.2.1 n0 mi.2.2.2.2.2.2.2.1 mi.2.2.2.2.2.2.2.2.1 Q (pc, lo, st, C, rg, uc, us) := by
  unfold xlook at h
  split at h
  · next a r =>
    split at h
    · next x hx =>
      split at h
      · next hp =>
        obtain ⟨t, ht, k⟩ := z_tg h
        intro H locs ls hR hL hP hD hS hn
        have e1 := xci_ok (ad := ad) (fm := fm) hR hx
        have h2 := k H locs ls hR hL hP hD hS hn
        simp only [List.map_cons, e1]
        exact lv_lookup hE.1 hE.2.1 hdg hp rfl ht h2
      · exact absurd h id
    · refine z_fork (fun hR => xcov_else (xcov_cs hR _) ?_) h
      split
      · refine xcov_else (xcov_sp hR _ _) ?_
        split
        · exact xcov_sp hR _ _
        · exact xcov_none
      · exact xcov_none
  · exact absurd h id
theorem z_cat {v : Value} (hE : xEnv p l e R s m args below meth c D cA ad fm A n0 mi) {b : Bool} (h : xc2 v = b) : (xv ad ρ fm v).category = if b = true then 2 else 1 := by
  rw [xv_cat (z_F hE), h]
theorem z_dup (hE : xEnv p l e R s m args below meth c D cA ad fm A n0 mi) (hdg : decode mi.2.1 pc = .ok (.dup, 1)) (h : xGood (xRn p l e R s m args below meth c D cA ad ρ fm A mi.2.2.2.2.1 n0 mi.2.2.2.2.2.2.2.1 mi.2.2.2.2.2.2.2.2.1 Q) L (xdup pc lo st C rg uc us)) : xRn p l e R s m args below meth c D cA ad ρ fm A mi.2.2.2.2.1 n0 mi.2.2.2.2.2.2.2.1 mi.2.2.2.2.2.2.2.2.1 Q (pc, lo, st, C, rg, uc, us) := by
  unfold xdup at h
  split at h
  · next a r =>
    split at h
    · exact absurd h id
    · next ha =>
      intro H locs ls hR hL hP hD hS hn
      have hc := xv_cat (ad := ad) (ρ := ρ) (z_F hE) a
      rw [if_neg ha] at hc
      exact lv_dup hE.1 hE.2.1 hdg hc (h H locs ls hR hL hP hD hS hn)
  · exact absurd h id
theorem z_dup2 (hE : xEnv p l e R s m args below meth c D cA ad fm A n0 mi) (hdg : decode mi.2.1 pc = .ok (.dup2, 1)) (h : xGood (xRn p l e R s m args below meth c D cA ad ρ fm A mi.2.2.2.2.1 n0 mi.2.2.2.2.2.2.2.1 mi.2.2.2.2.2.2.2.2.1 Q) L (xdup2 pc lo st C rg uc us)) : xRn p l e R s m args below meth c D cA ad ρ fm A mi.2.2.2.2.1 n0 mi.2.2.2.2.2.2.2.1 mi.2.2.2.2.2.2.2.2.1 Q (pc, lo, st, C, rg, uc, us) := by
  unfold xdup2 at h
  split at h
  · next a b r =>
    have hca := xv_cat (ad := ad) (ρ := ρ) (z_F hE) a
    have hcb := xv_cat (ad := ad) (ρ := ρ) (z_F hE) b
    split at h
    · next ha =>
      rw [if_pos ha] at hca
      intro H locs ls hR hL hP hD hS hn
      exact lv_dup2_2 hE.1 hE.2.1 hdg hca (h H locs ls hR hL hP hD hS hn)
    · next ha =>
      rw [if_neg ha] at hca
      split at h
      · exact absurd h id
      · next hb =>
        rw [if_neg hb] at hcb
        intro H locs ls hR hL hP hD hS hn
        exact lv_dup2_11 hE.1 hE.2.1 hdg hca hcb (h H locs ls hR hL hP hD hS hn)
  · next a =>
    have hca := xv_cat (ad := ad) (ρ := ρ) (z_F hE) a
    split at h
    · next ha =>
      rw [if_pos ha] at hca
      intro H locs ls hR hL hP hD hS hn
      exact lv_dup2_2 hE.1 hE.2.1 hdg hca (h H locs ls hR hL hP hD hS hn)
    · exact absurd h id
  · exact absurd h id
theorem z_pop (hE : xEnv p l e R s m args below meth c D cA ad fm A n0 mi) (hdg : decode mi.2.1 pc = .ok (.pop, 1)) (h : xGood (xRn p l e R s m args below meth c D cA ad ρ fm A mi.2.2.2.2.1 n0 mi.2.2.2.2.2.2.2.1 mi.2.2.2.2.2.2.2.2.1 Q) L (xpop1 pc lo st C rg uc us)) : xRn p l e R s m args below meth c D cA ad ρ fm A mi.2.2.2.2.1 n0 mi.2.2.2.2.2.2.2.1 mi.2.2.2.2.2.2.2.2.1 Q (pc, lo, st, C, rg, uc, us) := by
  unfold xpop1 at h
  split at h
  · next a r =>
    split at h
    · exact absurd h id
    · next ha =>
      intro H locs ls hR hL hP hD hS hn
      have hc := xv_cat (ad := ad) (ρ := ρ) (z_F hE) a
      rw [if_neg ha] at hc
      exact lv_pop hE.1 hE.2.1 hdg hc (h H locs ls hR hL hP hD hS hn)
  · exact absurd h id
end XROWS
