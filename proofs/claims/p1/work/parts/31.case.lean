/-! the law's own frame: what all cases have in common -/
theorem xret2_i {a b : Option Value} (h : xret2 false a b = true) : ∃ x, a = some (.int x) ∧ b = some (.int x) := by
  unfold xret2 at h
  split at h
  · next x y => simp only [Bool.not_false, Bool.true_and, decide_eq_true_eq] at h; exact ⟨x, rfl, by rw [h]⟩
  · simp at h
  · cases h
theorem xret2_l {a b : Option Value} (h : xret2 true a b = true) : ∃ x, a = some (.long x) ∧ b = some (.long x) := by
  unfold xret2 at h
  split at h
  · simp at h
  · next x y => simp only [Bool.true_and, decide_eq_true_eq] at h; exact ⟨x, rfl, by rw [h]⟩
  · cases h
theorem xdisj_no : ∀ (a b : xRG) (ρ : Nat → Int32), xokR ρ a → xokR ρ b → xdisj a b = true → False
  | [], _, _, _, _, h => by cases h
  | _ :: _, [], _, _, _, h => by cases h
  | a :: l, b :: m, ρ, ha, hb, h => by
    have h1 := ha 0 a rfl
    have h2 := hb 0 b rfl
    unfold xdisj at h
    rw [Bool.or_eq_true, Bool.or_eq_true, decide_eq_true_eq, decide_eq_true_eq] at h
    rcases h with h | h | h
    · omega
    · omega
    · exact xdisj_no l m (fun k => ρ (k + 1)) (fun k q hk => ha (k + 1) q hk) (fun k q hk => hb (k + 1) q hk) h
theorem xpair_ok {lg : Bool} {rg : xRG} {jx jm n : Nat} (h : xpair lg rg jx jm n = true) : ∃ l l2, xexec xK 13 jx (.ref 0 :: xsyms n) xC0 rg = some l ∧ xexec xK 13 jm (.ref 0 :: xsyms n) xM0 rg = some l2 ∧ ∀ lf ∈ l, ∀ lf2 ∈ l2, ∀ ρ, xokR ρ lf.2.2 → xokR ρ lf2.2.2 → xret2 lg lf.1 lf2.1 = true := by
  unfold xpair at h
  rw [xexecQ_eq] at h
  split at h
  · cases h
  · next l hl =>
    split at h
    · cases h
    · next l2 hl2 =>
      refine ⟨l, l2, hl, hl2, fun lf h1 lf2 h2 ρ r1 r2 => ?_⟩
      have h9 := List.all_eq_true.mp (List.all_eq_true.mp h lf h1) lf2 h2
      rw [Bool.or_eq_true] at h9
      rcases h9 with h9 | h9
      · exact h9
      · exact (xdisj_no _ _ ρ r1 r2 h9).elim
theorem i32_lo (x : Int32) : -2147483648 ≤ x.toInt := Int32.le_toInt x
theorem i32_hi (x : Int32) : x.toInt ≤ 2147483647 := Int32.toInt_le x
theorem xfull_ok (x : Int32) : xfull.1 ≤ x.toInt ∧ x.toInt ≤ xfull.2 := ⟨i32_lo x, i32_hi x⟩
theorem xrg_5 {ρ : Nat → Int32} {a b c d e : Int × Int} (ha : a.1 ≤ (ρ 0).toInt ∧ (ρ 0).toInt ≤ a.2) (hb : b.1 ≤ (ρ 1).toInt ∧ (ρ 1).toInt ≤ b.2) (hc : c.1 ≤ (ρ 2).toInt ∧ (ρ 2).toInt ≤ c.2) (hd : d.1 ≤ (ρ 3).toInt ∧ (ρ 3).toInt ≤ d.2) (he : e.1 ≤ (ρ 4).toInt ∧ (ρ 4).toInt ≤ e.2) : xokR ρ [a, b, c, d, e] := by
  intro k q hk
  match k, hk with
  | 0, hk => cases hk; exact ha
  | 1, hk => cases hk; exact hb
  | 2, hk => cases hk; exact hc
  | 3, hk => cases hk; exact hd
  | 4, hk => cases hk; exact he
  | k + 5, hk => simp at hk
theorem xrg0_ok (ρ : Nat → Int32) : xokR ρ xrg0 := xrg_5 (xfull_ok _) (xfull_ok _) (xfull_ok _) (xfull_ok _) (xfull_ok _)
/-- one int, cut at t -/
theorem xcut (x : Int32) (t u : Int) (hu : u = t + 1) : ((-2147483648, t) : Int × Int).1 ≤ x.toInt ∧ x.toInt ≤ ((-2147483648, t) : Int × Int).2 ∨ u ≤ x.toInt := by
  by_cases h : x.toInt ≤ t
  · exact Or.inl ⟨i32_lo x, h⟩
  · exact Or.inr (by omega)
theorem xcut2 (x : Int32) (lo t u : Int) (hu : u = t + 1) (h0 : lo ≤ x.toInt) : ((lo, t) : Int × Int).1 ≤ x.toInt ∧ x.toInt ≤ ((lo, t) : Int × Int).2 ∨ u ≤ x.toInt := by
  by_cases h : x.toInt ≤ t
  · exact Or.inl ⟨h0, h⟩
  · exact Or.inr (by omega)
theorem xcut3 (x : Int32) (lo : Int) (h0 : lo ≤ x.toInt) : ((lo, 2147483647) : Int × Int).1 ≤ x.toInt ∧ x.toInt ≤ ((lo, 2147483647) : Int × Int).2 := ⟨h0, i32_hi x⟩
set_option maxRecDepth 100000 in
theorem xC0_sc : xscoped xC0 = true := by decide +kernel
set_option maxRecDepth 100000 in
theorem xM0_sc : xscoped xM0 = true := by decide +kernel
set_option maxRecDepth 100000 in
theorem xC0_le : xC0.length ≤ xB := by decide +kernel
set_option maxRecDepth 100000 in
theorem xM0_le : xM0.length ≤ xB := by decide +kernel
def xC0f : List Value := [.ref 1, .ref 42, .ref 6, .int 1, .ref 43, .ref 57, .ref 71, .int 0, .ref 7, .ref 9]
theorem xC0_0 : xC0[0]? = some (6, xC0f) := rfl
theorem xM0_0 : ∃ fs, xM0[0]? = some (7, fs) := ⟨_, rfl⟩
theorem lav_1 {ad : Nat → Nat} {ρ : Nat → Int32} {fm : Value} (k : Nat) (hk : k < 16) : xv ad ρ fm (.retAddr (2 * k)) = .int (ρ k) := by
  have h1 : 2 * k % 2 = 0 := by omega
  have h2 : 2 * k % 32 / 2 = k := by omega
  have h3 : 2 * k / 32 = 0 := by omega
  rw [xv, if_pos h1, h2, h3]
  simp
theorem lav_0 {ad : Nat → Nat} {ρ : Nat → Int32} {fm : Value} : (xsyms 0).map (xv ad ρ fm) = [] := rfl
theorem lav_n1 {ad : Nat → Nat} {ρ : Nat → Int32} {fm : Value} : (xsyms 1).map (xv ad ρ fm) = [.int (ρ 0)] := by
  show [xv ad ρ fm (.retAddr (2 * 0))] = _
  rw [lav_1 0 (by decide)]
theorem lav_n2 {ad : Nat → Nat} {ρ : Nat → Int32} {fm : Value} : (xsyms 2).map (xv ad ρ fm) = [.int (ρ 0), .int (ρ 1)] := by
  show [xv ad ρ fm (.retAddr (2 * 0)), xv ad ρ fm (.retAddr (2 * 1))] = _
  rw [lav_1 0 (by decide), lav_1 1 (by decide)]
theorem lav_n3 {ad : Nat → Nat} {ρ : Nat → Int32} {fm : Value} : (xsyms 3).map (xv ad ρ fm) = [.int (ρ 0), .int (ρ 1), .int (ρ 2)] := by
  show [xv ad ρ fm (.retAddr (2 * 0)), xv ad ρ fm (.retAddr (2 * 1)), xv ad ρ fm (.retAddr (2 * 2))] = _
  rw [lav_1 0 (by decide), lav_1 1 (by decide), lav_1 2 (by decide)]
theorem lav_n4 {ad : Nat → Nat} {ρ : Nat → Int32} {fm : Value} : (xsyms 4).map (xv ad ρ fm) = [.int (ρ 0), .int (ρ 1), .int (ρ 2), .int (ρ 3)] := by
  show [xv ad ρ fm (.retAddr (2 * 0)), xv ad ρ fm (.retAddr (2 * 1)), xv ad ρ fm (.retAddr (2 * 2)), xv ad ρ fm (.retAddr (2 * 3))] = _
  rw [lav_1 0 (by decide), lav_1 1 (by decide), lav_1 2 (by decide), lav_1 3 (by decide)]
theorem lav_n5 {ad : Nat → Nat} {ρ : Nat → Int32} {fm : Value} : (xsyms 5).map (xv ad ρ fm) = [.int (ρ 0), .int (ρ 1), .int (ρ 2), .int (ρ 3), .int (ρ 4)] := by
  show [xv ad ρ fm (.retAddr (2 * 0)), xv ad ρ fm (.retAddr (2 * 1)), xv ad ρ fm (.retAddr (2 * 2)), xv ad ρ fm (.retAddr (2 * 3)), xv ad ρ fm (.retAddr (2 * 4))] = _
  rw [lav_1 0 (by decide), lav_1 1 (by decide), lav_1 2 (by decide), lav_1 3 (by decide), lav_1 4 (by decide)]
/-- both objects are there, fresh; the script is read at 0 -/
def lInv (s : State) (b : Nat) (D : va_G) (cA : Nat → ClassId) (fm : Value) (xs : Nat → Int32) (adx adm : Nat → Nat) (H : Heap) (locs : List Loc) (ls : Array Slot) (cells slots : Nat) : Prop :=
  va_P D vwCl (xenc cA (xv adx (fun _ => 0) fm) adx xC0) H ∧ va_D (xGe s) (xenc cA (xv adx (fun _ => 0) fm) adx xC0) ∧ va_P D vwCl (xenc cA (xv adm (fun _ => 0) fm) adm xM0) H ∧ va_D (xGe s) (xenc cA (xv adm (fun _ => 0) fm) adm xM0) ∧ (∀ i, i < xC0.length → ∀ k, k < xM0.length → adm k ≠ adx i) ∧ va_S (xGe s) s.heap H locs ∧ lv_has ls 4 [(3, .int 0), (2, .ref (adm 0)), (1, .ref (adx 0)), (0, .ref b)] ∧ va_X b 6 xs s s.heap ∧ b < s.heap.size ∧ cells ≤ 600000 ∧ slots ≤ 7302250
section XCASE
variable {p : Program} {l : Launch} {e : Env} {s : State} {m : MethodId} {b : Nat} {below : List Frame} {meth : Method} {c : Code} {D : va_G} {cA : Nat → ClassId} {xa : Nat → Nat} {fm : Value} {xs : Nat → Int32} {adx adm : Nat → Nat} {H : Heap} {locs : List Loc} {ls : Array Slot} {pc cells slots : Nat} {rest : List Value}
theorem law_end (hr : meth.sig.returnType = ret) (hlk : meth.locks = false) (hE : lEnv p l e s m b c D cA xa fm) (hS : va_S (xGe s) s.heap H locs) (hc : cells ≤ 600000 ∧ slots ≤ 7302250) : W p l e room_1 s m #[Value.ref b] below meth c H locs cells slots (lw_Z below #[Value.ref b] s) (F0 m 1172 ls []) := by
  refine va_forget (fun q hq => hS.2.2 q hq) ?_
  refine W.widen (k := 600000) (n := 7302250) hc.1 hc.2 ?_
  refine lv_iconst hE.1 hE.2.1 dL_law_1172 rfl ?_
  exact lw_ret hE.1 hE.2.1 hr hlk dL_law_1173
theorem law_tail (hr : meth.sig.returnType = ret) (hlk : meth.locks = false) (hE : lEnv p l e s m b c D cA xa fm) (hX : va_X b 6 xs s s.heap) (hbl : b < s.heap.size) (hS : va_S (xGe s) s.heap H locs) (hL : lv_has ls 4 [(3, .int 0), (2, .ref (adm 0)), (1, .ref (adx 0)), (0, .ref b)]) (hc : cells ≤ 600000 ∧ slots ≤ 7302250) : W p l e room_1 s m #[Value.ref b] below meth c H locs cells slots (lw_Z below #[Value.ref b] s) (F0 m 1166 ls []) := by
  refine lv_iinc (k := 0) (v := 6) hE.1 hE.2.1 dL_law_1166 hL rfl rfl (by decide) rfl (fun ls' h' => ?_)
  refine lv_goto (tgt := 18) hE.1 hE.2.1 dL_law_1169 rfl ?_
  refine lv_iload_n (x := 6) hE.1 hE.2.1 dL_law_18 rfl (h'.2.2 (3, .int 6) (by simp)) ?_
  refine lv_aload_n (x := b) hE.1 hE.2.1 dL_law_19 rfl (h'.2.2 (0, .ref b) (by simp)) ?_
  refine va_slen hE.1 hE.2.1 hX hbl (fun z => Nat.not_le.mpr hbl z) hS dL_law_20 ?_
  refine lv_bipush (v := 6) hE.1 hE.2.1 dL_law_21 rfl ?_
  refine lv_isub hE.1 hE.2.1 dL_law_23 ?_
  refine lv_icmp_gt (tgt := 1172) hE.1 hE.2.1 dL_law_24 rfl (fun _ => ?_) (fun z => absurd (by decide) z)
  exact law_end hr hlk hE hS hc
theorem law_cls (hE : lEnv p l e s m b c D cA xa fm) {Q : State → Prop} (hI : lInv s b D cA fm xs adx adm H locs ls cells slots) {lg : Bool} {rg : xRG} {jx jm n idx : Nat} {mi : xMI} {av : List Value} (hR : xokR (fun k => xs (k + 1)) rg) (hp : xpair lg rg jx jm n = true) (hj : xmi jx = some mi) (hk : mi.2.2.2.2.2.2.1 = 1 ∧ mi.2.2.2.2.2.2.2.1 = 0 ∧ mi.2.2.2.2.2.2.2.2.1 = 0 ∧ mi.2.2.1 = 6 ∧ mi.2.2.2.1 = (xsyms n).length + 1) (hav : ∀ ad', (xsyms n).map (xv ad' (fun k => xs (k + 1)) fm) = av) (hdg : decode code pc = .ok (.invokevirtual idx, 3)) (hlink : Cond.methodLink RL idx mi.1 ∈ wsL_law)
    (kk : ∀ (a : Option Value) (ad' : Nat → Nat) (H1 : Heap) (locs1 : List Loc), (∀ l2, xexec xK 13 jm (.ref 0 :: xsyms n) xM0 rg = some l2 → ∀ lf2 ∈ l2, xokR (fun k => xs (k + 1)) lf2.2.2 → xret2 lg a lf2.1 = true) → va_P D vwCl (xenc cA (xv adm (fun _ => 0) fm) adm xM0) H1 → va_S (xGe s) s.heap H1 locs1 → W p l e room_1 s m #[Value.ref b] below meth c H1 locs1 cells slots Q (F0 m (pc + 3) ls ((a.map (xv ad' (fun k => xs (k + 1)) fm)).toList ++ []))) :
    W p l e room_1 s m #[Value.ref b] below meth c H locs cells slots Q (F0 m pc ls (av.reverse ++ .ref (adx 0) :: [])) := by
  obtain ⟨l1, l2, h1, h2, h3⟩ := xpair_ok hp
  obtain ⟨iP, iD, jP, jD, iN, iS, iL, iX, ib, ic, isl⟩ := hI
  obtain ⟨k1, k2, k3, k4, k5⟩ := hk
  refine law_virt (fs := xC0f) hE (show 13 ≤ 40 by decide) hj k1 k2 k3 h1 xC0_sc xC0_le (by rw [k4]; exact xC0_0) (by rw [k4]; decide) k5 hR iP iD iS iL.1 (by simp) ⟨ic, isl⟩ hdg hlink hav (fun lf hlf r1 ad' H1 locs1 z1 z2 z3 => ?_)
  refine kk lf.1 ad' H1 locs1 (fun l2' h2' lf2 hlf2 r2 => ?_) (jP.kept fun k q hq => ?_) z3
  · rw [h2] at h2'
    cases h2'
    exact h3 lf hlf lf2 hlf2 _ r1 r2
  · obtain ⟨cq, hcq, hez⟩ := xenc_of hq
    have hkl := (List.getElem?_eq_some_iff.mp hcq).1
    have hlt := (jP k q hq).lt
    have e1 : q.1 = adm k := congrArg Prod.fst hez
    exact z2 q.1 hlt (fun i hi => by rw [e1]; exact iN i hi k hkl)
theorem law_mod (hE : lEnv p l e s m b c D cA xa fm) {Q : State → Prop} {lg : Bool} {rg : xRG} {jx jm n idx : Nat} {mi : xMI} {av : List Value} {a : Option Value} {ad1 : Nat → Nat} (hp : xpair lg rg jx jm n = true) (hR : xokR (fun k => xs (k + 1)) rg) (ha : ∀ l2, xexec xK 13 jm (.ref 0 :: xsyms n) xM0 rg = some l2 → ∀ lf2 ∈ l2, xokR (fun k => xs (k + 1)) lf2.2.2 → xret2 lg a lf2.1 = true) (jP : va_P D vwCl (xenc cA (xv adm (fun _ => 0) fm) adm xM0) H) (jD : va_D (xGe s) (xenc cA (xv adm (fun _ => 0) fm) adm xM0)) (iS : va_S (xGe s) s.heap H locs) (hsz : ls.size = 4) (hc : cells ≤ 600000 ∧ slots ≤ 7302250) (hj : xmi jm = some mi) (hk : mi.2.2.2.2.2.2.1 = 1 ∧ mi.2.2.2.2.2.2.2.1 = 0 ∧ mi.2.2.2.2.2.2.2.2.1 = 0 ∧ mi.2.2.1 = 7 ∧ mi.2.2.2.1 = (xsyms n).length + 1) (hav : ∀ ad', (xsyms n).map (xv ad' (fun k => xs (k + 1)) fm) = av) (hdg : decode code pc = .ok (.invokevirtual idx, 3)) (hlink : Cond.methodLink RL idx mi.1 ∈ wsL_law)
    (kk : ∀ (a2 : Option Value) (ad2 : Nat → Nat) (H1 : Heap) (locs1 : List Loc), xret2 lg a a2 = true → va_S (xGe s) s.heap H1 locs1 → W p l e room_1 s m #[Value.ref b] below meth c H1 locs1 cells slots Q (F0 m (pc + 3) ls ((a2.map (xv ad2 (fun k => xs (k + 1)) fm)).toList ++ ((a.map (xv ad1 (fun k => xs (k + 1)) fm)).toList ++ [])))) :
    W p l e room_1 s m #[Value.ref b] below meth c H locs cells slots Q (F0 m pc ls (av.reverse ++ .ref (adm 0) :: ((a.map (xv ad1 (fun k => xs (k + 1)) fm)).toList ++ []))) := by
  obtain ⟨l1, l2, h1, h2, h3⟩ := xpair_ok hp
  obtain ⟨k1, k2, k3, k4, k5⟩ := hk
  obtain ⟨fs, hfs⟩ := xM0_0
  have hcat : ((((a.map (xv ad1 (fun k => xs (k + 1)) fm)).toList ++ [])).map fun v : Value => v.category).sum ≤ 8 := by
    cases a with
    | none => simp
    | some v =>
      have := xv_cat_le (ad := ad1) (ρ := fun k => xs (k + 1)) hE.2.2.2.2.2.2.2 v
      simp only [Option.map_some, Option.toList_some, List.append_nil, List.map_cons, List.map_nil, List.sum_cons, List.sum_nil]
      omega
  refine law_virt (fs := fs) hE (show 13 ≤ 40 by decide) hj k1 k2 k3 h2 xM0_sc xM0_le (by rw [k4]; exact hfs) (by rw [k4]; decide) k5 hR jP jD iS hsz hcat hc hdg hlink hav (fun lf hlf r1 ad' H1 locs1 z1 z2 z3 => ?_)
  exact kk lf.1 ad' H1 locs1 (ha l2 h2 lf hlf r1) z3
theorem law_eqI (hr : meth.sig.returnType = ret) (hlk : meth.locks = false) (hE : lEnv p l e s m b c D cA xa fm) (hX : va_X b 6 xs s s.heap) (hbl : b < s.heap.size) (hS : va_S (xGe s) s.heap H locs) (hL : lv_has ls 4 [(3, .int 0), (2, .ref (adm 0)), (1, .ref (adx 0)), (0, .ref b)]) (hc : cells ≤ 600000 ∧ slots ≤ 7302250) {a a2 : Option Value} {ad1 ad2 : Nat → Nat} {ρ : Nat → Int32} (h : xret2 false a a2 = true) {off : Int} (hdg : decode code pc = .ok (.if_icmp .eq off, 3)) (ht : (pc : Int) + off = ((1166 : Nat) : Int)) : W p l e room_1 s m #[Value.ref b] below meth c H locs cells slots (lw_Z below #[Value.ref b] s) (F0 m pc ls ((a2.map (xv ad2 ρ fm)).toList ++ ((a.map (xv ad1 ρ fm)).toList ++ []))) := by
  obtain ⟨x, rfl, rfl⟩ := xret2_i h
  exact lv_icmp_eq (x := x) (y := x) (rest := []) hE.1 hE.2.1 hdg ht (fun _ => law_tail hr hlk hE hX hbl hS hL hc) (fun z => absurd rfl z)
theorem law_eqL (hr : meth.sig.returnType = ret) (hlk : meth.locks = false) (hE : lEnv p l e s m b c D cA xa fm) (hX : va_X b 6 xs s s.heap) (hbl : b < s.heap.size) (hS : va_S (xGe s) s.heap H locs) (hL : lv_has ls 4 [(3, .int 0), (2, .ref (adm 0)), (1, .ref (adx 0)), (0, .ref b)]) (hc : cells ≤ 600000 ∧ slots ≤ 7302250) {a a2 : Option Value} {ad1 ad2 : Nat → Nat} {ρ : Nat → Int32} (h : xret2 true a a2 = true) {off : Int} (hdg : decode code pc = .ok (.lcmp, 1)) (hdg2 : decode code (pc + 1) = .ok (.ifCond .eq off, 3)) (ht : ((pc + 1 : Nat) : Int) + off = ((1166 : Nat) : Int)) : W p l e room_1 s m #[Value.ref b] below meth c H locs cells slots (lw_Z below #[Value.ref b] s) (F0 m pc ls ((a2.map (xv ad2 ρ fm)).toList ++ ((a.map (xv ad1 ρ fm)).toList ++ []))) := by
  obtain ⟨x, rfl, rfl⟩ := xret2_l h
  refine W.lcmp (x := x) (y := x) (rest := []) hE.1 hE.2.1 hdg ?_
  have e1 : lg_cmp x x = 0 := by
    have n1 : ¬ x > x := Int64.lt_irrefl
    rw [lg_cmp, if_neg n1, if_pos rfl]
  rw [e1]
  exact lv_if_eq (rest := []) hE.1 hE.2.1 hdg2 ht (fun _ => law_tail hr hlk hE hX hbl hS hL hc) (fun z => absurd rfl z)
end XCASE
