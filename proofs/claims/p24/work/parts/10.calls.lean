/-! calls, ends, whole methods -/
theorem xAOA_moved {u U : State} (hvm : u.vm.Alike U.vm) (h : va_Nw (.arrayOver (.array .int)) u) : va_Nw (.arrayOver (.array .int)) U := by
  unfold va_Nw Cond.before Cond.holds at h ⊢
  simp only [Cond.value, beq_iff_eq] at h ⊢
  have e1 : U.vm.findClass (FieldType.array .int).toString = u.vm.findClass (FieldType.array .int).toString := by rw [hvm.findClass]
  have e2 : U.vm.findClass ("[" ++ (FieldType.array .int).toString) = u.vm.findClass ("[" ++ (FieldType.array .int).toString) := by rw [hvm.findClass]
  rw [e1]
  cases hc : u.vm.findClass (FieldType.array .int).toString with
  | none => rw [hc] at h; simp at h
  | some comp =>
    rw [hc] at h
    simp only [Option.bind_some, Option.bind_eq_some_iff, Option.map_eq_some_iff] at h ⊢
    obtain ⟨c, hi, k, hk, hb⟩ := h
    have q1 := va_idx_bare U.vm comp
    have q2 := va_idx_bare u.vm comp
    have q3 : U.vm.bare = u.vm.bare := by first | exact hvm.bare_eq | exact hvm.bare_eq.symm
    rw [q3] at q1
    have hi2 := q1.symm.trans (q2.trans hi)
    obtain ⟨k', hk', he⟩ := hvm.2.2 _ _ hk
    refine ⟨c, hi2, k', hk', ?_⟩
    have ek : k'.kind = k.kind := by rw [he]
    rw [ek, e2]
    exact hb
theorem xExt_call {ad : Nat → Nat} {fm : Value} {A A' : Nat → Prop} {s U : State} {H : Heap} {locs : List Loc} (h : xExt ad fm A s s.heap) (hS : va_S A s.heap H locs) (hAA : ∀ q, A' q → A q) (hW : s.WarmedH U.vm) (hU : U.heap = H) : xExt ad fm A' U U.heap := by
  obtain ⟨h1, h2, h3, h4, ⟨h5, h6, h7⟩, h8⟩ := h
  rw [hU]
  refine ⟨fun q hq => va_Z.moved hW.alike (((h1 q hq).kept hS.2.1).narrow hAA), fun j l hl => va_T.moved hW.alike (((h2 j l hl).kept hS.2.1).narrow hAA), vk_S.moved hW.alike ((h3.kept hS.2.1).narrow hAA), fun i q hq => (h4 i q hq).warm hW, ⟨h5.moved hW.alike, h6.moved hW.alike, xAOA_moved hW.alike h7⟩, fun q hq => va_Nw.warmM hW (h8 q hq)⟩
theorem xExt_same {ad : Nat → Nat} {fm : Value} {A : Nat → Prop} {u U : State} (h : xExt ad fm A u u.heap) (hv : U.vm = u.vm) (hh : U.heap = u.heap) : xExt ad fm A U U.heap := by
  have hal : u.vm.Alike U.vm := by rw [hv]; exact Vm.Alike.refl _
  obtain ⟨h1, h2, h3, h4, ⟨h5, h6, h7⟩, h8⟩ := h
  rw [hh]
  refine ⟨fun q hq => va_Z.moved hal (h1 q hq), fun j l hl => va_T.moved hal (h2 j l hl), vk_S.moved hal h3, fun i q hq => (h4 i q hq).same hv, ⟨h5.moved hal, h6.moved hal, xAOA_moved hal h7⟩, fun q hq => va_Nw.same rfl hv.symm (h8 q hq)⟩
noncomputable def xws (mi : xMI) : List Cond := Cond.code mi.1 mi.2.1 mi.2.2.2.2.1 (xrt mi.2.2.2.2.2.1) :: wsL_law
noncomputable def xrm (d : Nat) (mi : xMI) : Room := { frames := d, cells := mi.2.2.2.2.2.2.2.1, slots := mi.2.2.2.2.2.2.2.2.1, locals := 40 * d }
noncomputable def xPc (D : va_G) (cA : Nat → ClassId) (ad : Nat → Nat) (ρ : Nat → Int32) (fm : Value) (C : List xCel) (sz : Nat) (as : List Value) : Array Value → State → Prop := va_Pc (as.map (xv ad ρ fm)) (fun U => U.heap.size = sz ∧ va_P D vwCl (xenc cA (xv ad ρ fm) ad C) U.heap ∧ va_K D vwCl (xtys cA) U ∧ va_D (fun _ => True) (xenc cA (xv ad ρ fm) ad C) ∧ xExt ad fm (va_A (xenc cA (xv ad ρ fm) ad C) sz) U U.heap)
noncomputable def xQc (D : va_G) (cA : Nat → ClassId) (ad : Nat → Nat) (ρ : Nat → Int32) (fm : Value) (A : Nat → Prop) (n : Nat) (LF : List xLf) : Array Value → State → Outcome → State → Prop := fun _ st oc t => (∃ lf ∈ LF, xokR ρ lf.2.2 ∧ oc = .returned (lf.1.map (xv ad ρ fm)) ∧ va_P D vwCl (xenc cA (xv ad ρ fm) ad lf.2.1) t.heap ∧ va_K D vwCl (xtys cA) t ∧ va_D A (xenc cA (xv ad ρ fm) ad lf.2.1) ∧ lf.2.1.length = n ∧ n ≤ xB) ∧ va_F A st t
/-- what a method's run in the engine says of the machine -/
def xCt (d : Nat) (mi : xMI) (as : List Value) (C : List xCel) (rg : xRG) (LF : List xLf) : Prop :=
  ∀ (l : Launch) (D : va_G) (cA : Nat → ClassId) (ad : Nat → Nat) (ρ : Nat → Int32) (fm : Value) (sz : Nat), xokF fm → xokR ρ rg → C.length ≤ xB → (∀ k, C.length ≤ k → k < xB → ad k = sz + (k - C.length)) →
    Met l mi.1 (xws mi) (xrm d mi) (xPc D cA ad ρ fm C sz as) (xQc D cA ad ρ fm (va_A (xenc cA (xv ad ρ fm) ad C) sz) (C.length + mi.2.2.2.2.2.2.2.1) LF) mi.2.2.2.2.2.2.2.1 mi.2.2.2.2.2.2.2.2.1 (va_A (xenc cA (xv ad ρ fm) ad C) sz)
theorem xPc_blind {D : va_G} {cA : Nat → ClassId} {ad : Nat → Nat} {ρ : Nat → Int32} {fm : Value} {C : List xCel} {sz : Nat} {as : List Value} : FrameBlind (xPc D cA ad ρ fm C sz as) := by
  intro a U g mk q
  obtain ⟨q0, q1, qP, qK, qD, qX⟩ := q
  exact ⟨q0, q1, qP, va_K.moved (u := U) (U := U.calling g mk a) (Vm.Alike.refl U.vm) qK, qD, xExt_same qX rfl rfl⟩
theorem x_size {D : va_G} {cA : Nat → ClassId} {V : Value → Value} {ad : Nat → Nat} {A : Nat → Prop} {C : List xCel} {H0 H : Heap} {locs : List Loc} {n0 uc : Nat} (had : ∀ k, n0 ≤ k → k < xB → ad k = H0.size + (k - n0)) (hn : C.length = n0 + uc) (hB : n0 + uc ≤ xB) (hP : va_P D vwCl (xenc cA V ad C) H) (hS : va_S A H0 H locs) (hsz : H.size ≤ H0.size + uc) : H.size = H0.size + uc := by
  have h1 := hS.1
  by_cases h0 : uc = 0
  · omega
  · have hk : n0 + uc - 1 < C.length := by omega
    have hg := xenc_get (cA := cA) (V := V) (ad := ad) (List.getElem?_eq_getElem hk)
    have hlt : ad (n0 + uc - 1) < H.size := (hP _ _ hg).lt
    rw [had (n0 + uc - 1) (by omega) (by omega)] at hlt
    omega
theorem xgoodIn {ws : List Cond} (h : ∀ w ∈ ws, w ∈ wsL_law) : GoodIn wsL_law ws := fun w hw => ⟨h w hw, good_of_word (List.all_eq_true.mp xws_good w (h w hw))⟩
theorem xws_in {mi : xMI} (h : xMIok mi) : ∀ w ∈ xws mi, w ∈ wsL_law := fun w hw => (List.mem_cons.mp hw).elim (fun e => by rw [e]; exact h.2.2.1) id
theorem xcn_vw : ∀ {ci : Nat} {q : vw_C}, vwCl[ci]? = some q → xcn ci = q.1
  | 0, q, h => by cases h; rfl
  | 1, q, h => by cases h; rfl
  | 2, q, h => by cases h; rfl
  | 3, q, h => by cases h; rfl
  | 4, q, h => by cases h; rfl
  | 5, q, h => by cases h; rfl
  | 6, q, h => by cases h; rfl
  | 7, q, h => by cases h; rfl
  | n + 8, q, h => by simp [vwCl] at h
section XCALL
variable {p : Program} {l : Launch} {e : Env} {R : Room} {s : State} {m : MethodId} {args : Array Value} {below : List Frame} {meth : Method} {c : Code} {D : va_G} {cA : Nat → ClassId} {ad : Nat → Nat} {ρ : Nat → Int32} {fm : Value} {A : Nat → Prop} {n0 : Nat} {mi : xMI} {Q : State → Prop} {L : xLf → Prop}
variable {pc : Nat} {lo : List (Option Value)} {st : List Value} {C : List xCel} {rg : xRG} {uc us : Nat}
/-- behind a call -/
theorem z_back (hE : xEnv p l e R s m args below meth c D cA ad fm A n0 mi) {mi' : xMI} {LF : List xLf} {r st0 : List Value} {a : Array Value} {H : Heap} {locs : List Loc} {ls : Array Slot} (hL : xLV (xv ad ρ fm) ls mi.2.2.2.2.1 lo) (hP : va_P D vwCl (xenc cA (xv ad ρ fm) ad C) H) (hD : va_D A (xenc cA (xv ad ρ fm) ad C)) (hS : va_S A s.heap H locs) (hn : C.length = n0 + uc) (hq1 : uc + mi'.2.2.2.2.2.2.2.1 ≤ mi.2.2.2.2.2.2.2.1) (hq2 : us + mi'.2.2.2.2.2.2.2.2.1 ≤ mi.2.2.2.2.2.2.2.2.1)
    (hr : va_Run p l e R s m args below meth c H locs uc us mi'.2.2.2.2.2.2.2.1 mi'.2.2.2.2.2.2.2.2.1 (F0 m pc ls st0) (r.map (xv ad ρ fm)) (xQc D cA ad ρ fm (va_A (xenc cA (xv ad ρ fm) ad C) H.size) (C.length + mi'.2.2.2.2.2.2.2.1) LF a) (va_A (xenc cA (xv ad ρ fm) ad C) H.size))
    (h : xGood (xRn p l e R s m args below meth c D cA ad ρ fm A mi.2.2.2.2.1 n0 mi.2.2.2.2.2.2.2.1 mi.2.2.2.2.2.2.2.2.1 Q) L (xcallR pc lo (uc + mi'.2.2.2.2.2.2.2.1) (us + mi'.2.2.2.2.2.2.2.2.1) r (some LF))) : W p l e R s m args below meth c H locs uc us Q (F0 m pc ls st0) := by
  obtain ⟨hx, hb, hml, hown, hts, hK, hX, hret, hlk, hin, hroom, hrc, hrs, hF, hA, hAx, had⟩ := hE
  have hall : ∀ lf ∈ LF, xRn p l e R s m args below meth c D cA ad ρ fm A mi.2.2.2.2.1 n0 mi.2.2.2.2.2.2.2.1 mi.2.2.2.2.2.2.2.2.1 Q (xback pc lo (uc + mi'.2.2.2.2.2.2.2.1) (us + mi'.2.2.2.2.2.2.2.2.1) r lf) := by
    unfold xcallR at h
    simp only at h
    split at h
    · next lf0 => intro lf hlf; rw [List.mem_singleton.mp hlf]; exact h
    · intro lf hlf; exact h _ (List.mem_map.mpr ⟨lf, hlf, rfl⟩)
  have hAA : ∀ q, va_A (xenc cA (xv ad ρ fm) ad C) H.size q → A q := by
    intro q hq
    rcases hq with ⟨k, ez, hk⟩ | hq
    · exact hD.2 k _ hk
    · exact hA q (Nat.le_trans hS.1 hq)
  intro T hT X
  obtain ⟨v, st₀, t, T', Lc, h0, X', hLc, e1, e2, ⟨⟨lf, hlf, k1, k2, k3, k4, k5, k6, k7⟩, hz, hk⟩, stp⟩ := hr T hT X
  rw [h0] at hz hk
  have hv : v = lf.1.map (xv ad ρ fm) := by cases k2; rfl
  have hS' : va_S A s.heap T'.heap (locs ++ Lc) := ⟨Nat.le_trans hS.1 (by rw [e1]; exact hz), fun q h1 h2 => by rw [e1, hk q (Nat.lt_of_lt_of_le h1 hS.1) (fun z => h2 (hAA q z))]; exact hS.2.1 q h1 h2, fun q hq => by
    rcases List.mem_append.mp hq with h1 | h1
    · exact hS.2.2 q h1
    · exact hAA _ (hLc q h1)⟩
  have h2 := hall lf hlf T'.heap (locs ++ Lc) ls k1 hL (by rw [e1]; exact k3) (k5.weaken (fun _ _ _ hz => hAA _ hz)) hS' ⟨by show lf.2.1.length = _; rw [k6, hn]; show _ = n0 + (uc + _); omega, hq1, hq2, by have h9 := k7; rw [hn] at h9; show n0 + (uc + _) ≤ xB; omega⟩
  obtain ⟨t2, a1, b1⟩ := h2 T' rfl X'
  refine ⟨t2, stp t2 ?_, b1⟩
  have est : v.toList ++ r.map (xv ad ρ fm) = (lf.1.toList ++ r).map (xv ad ρ fm) := by
    rw [hv, List.map_append]
    cases lf.1 <;> rfl
  rw [est]
  exact a1
theorem xpop_ok : ∀ {n : Nat} {acc st as r : List Value}, xpop n acc st = some (as, r) → as.reverse ++ r = acc.reverse ++ st ∧ as.length = acc.length + n
  | 0, acc, st, as, r, h => by cases h; exact ⟨rfl, rfl⟩
  | n + 1, acc, [], as, r, h => by cases h
  | n + 1, acc, v :: st, as, r, h => by
    obtain ⟨h1, h2⟩ := xpop_ok (n := n) h
    refine ⟨by rw [h1]; simp, by rw [h2]; simp; omega⟩
/-- the link of a call -/
def xLk (own : String) (idx : Nat) (y : MethodName) (s : State) (args : Array Value) : Prop := (Cond.methodLink own idx y).before args s = true
theorem z_CB {mi' : xMI} (hok : xMIok mi') (hts : ∀ w ∈ wsL_law, w.before args s = true) {own : String} {idx d : Nat} (hl : (Cond.methodLink own idx mi'.1).before args s = true) (hR : R.frames = d + 1 ∧ R.locals = 40 * (d + 1)) {n : Nat} (hn : (parseMethodDescriptor mi'.1.desc).map (fun d => d.parameters.length) = some n) : CallB R s args own idx mi'.1 mi'.2.1 mi'.2.2.2.2.1 (xrt mi'.2.2.2.2.2.1) (xws mi') (xrm d mi') mi'.2.2.2.2.2.2.2.1 mi'.2.2.2.2.2.2.2.2.1 n := by
  obtain ⟨o1, o2, o3, o4, o5, o6, o7, o8, o9, o10, o11, o12⟩ := hok
  refine callB_of n hts (xgoodIn (xws_in ⟨o1, o2, o3, o4, o5, o6, o7, o8, o9, o10, o11, o12⟩)) rfl rfl rfl (hts _ o4) hl ⟨o5.1, o5.2, hn⟩ ⟨?_, ?_⟩
  · rw [hR.1]; exact Nat.le_refl _
  · rw [hR.2]; show 8 + (_ + 11) + 40 * d ≤ _; omega
theorem z_call (hE : xEnv p l e R s m args below meth c D cA ad fm A n0 mi) {d : Nat} (hR : R.frames = d + 1 ∧ R.locals = 40 * (d + 1)) {call : Nat → List Value → List xCel → xRG → Option (List xLf)} (hcall : ∀ (j : Nat) (mi' : xMI) (as : List Value) (C : List xCel) (rg : xRG) (LF : List xLf), xmi j = some mi' → call j as C rg = some LF → xCt d mi' as C rg LF) {kd j idx : Nat} (hlink : ∀ mi', xmi j = some mi' → mi'.2.2.2.2.2.2.1 = kd → (Cond.methodLink (xcn mi.2.2.1) idx mi'.1).before args s = true ∨ (kd = 2 ∧ va_Nw (.methodLinkNest (xcn mi.2.2.1) idx mi'.1 "StreetTillTen") s)) (hdg : (kd = 0 ∧ decode mi.2.1 pc = .ok (.invokestatic idx, 3)) ∨ (kd = 1 ∧ decode mi.2.1 pc = .ok (.invokevirtual idx, 3)) ∨ (kd = 2 ∧ decode mi.2.1 pc = .ok (.invokespecial idx, 3))) (h : xGood (xRn p l e R s m args below meth c D cA ad ρ fm A mi.2.2.2.2.1 n0 mi.2.2.2.2.2.2.2.1 mi.2.2.2.2.2.2.2.2.1 Q) L (xcall pc lo st C rg uc us call mi.2.2.2.2.2.2.2.1 mi.2.2.2.2.2.2.2.2.1 kd j)) : xRn p l e R s m args below meth c D cA ad ρ fm A mi.2.2.2.2.1 n0 mi.2.2.2.2.2.2.2.1 mi.2.2.2.2.2.2.2.2.1 Q (pc, lo, st, C, rg, uc, us) := by
  have hE2 := hE
  obtain ⟨hx, hb, hml, hown, hts, hK, hX, hret, hlk, hin, hroom, hrc, hrs, hF, hA, hAx, had⟩ := hE2
  unfold xcall at h
  split at h
  · next mi' nm by' own na mx rk kd' mc' ms' tb hj =>
    split at h
    · next hkd =>
      subst hkd
      split at h
      · next as r hpop =>
        split at h
        · next hq =>
          obtain ⟨hr4, hq1, hq2, hrecv⟩ := hq
          rw [xfN_eq, xfN_eq] at h
          cases hc : call j as C rg with
          | none => rw [hc] at h; exact absurd h id
          | some LF =>
            rw [hc] at h
            have hCt := hcall j _ as C rg LF hj hc
            have hok := xmi_ok hj
            obtain ⟨o1, o2, o3, o4, o5, o6, o7, o8, o9, o10, o11, o12⟩ := id hok
            obtain ⟨hst, hlen⟩ := xpop_ok hpop
            simp only [List.reverse_nil, List.nil_append] at hst
            simp only [List.length_nil, Nat.zero_add] at hlen
            intro H locs ls hR' hL hP hD hS hn
            have hn' : C.length = n0 + uc := hn.1
            have hB : n0 + uc ≤ xB := hn.2.2.2
            refine xW_sz fun hsz => ?_
            have hsize := x_size had hn' hB hP hS hsz
            have had' : ∀ k, C.length ≤ k → k < xB → ad k = H.size + (k - C.length) := by
              intro k h1 h2
              rw [had k (by omega) h2, hsize]
              omega
            have hM := hCt l D cA ad ρ fm H.size hF hR' (by omega) had'
            have hAA : ∀ q, va_A (xenc cA (xv ad ρ fm) ad C) H.size q → A q := by
              intro q hq
              rcases hq with ⟨k, ez, hk⟩ | hq
              · exact hD.2 k _ hk
              · exact hA q (Nat.le_trans hS.1 hq)
            have hpre : ∀ U : State, U.heap = H → s.WarmedH U.vm → xPc D cA ad ρ fm C H.size as (as.map (xv ad ρ fm)).toArray U := fun U hU hW => ⟨rfl, by rw [hU], by rw [hU]; exact hP, va_K.moved hW.alike hK, hD.weaken (fun _ _ _ _ => trivial), xExt_call hX hS hAA hW hU⟩
            have hsum : ((r.map (xv ad ρ fm)).map fun v => v.category).sum ≤ 8 := xcat_sum hF r hr4
            have hstk : st.map (xv ad ρ fm) = (as.map (xv ad ρ fm)).reverse ++ r.map (xv ad ρ fm) := by
              rw [← hst, List.map_append, List.map_reverse]
            have hlink' := hlink _ hj rfl
            rcases hdg with ⟨e0, hdg⟩ | ⟨e1, hdg⟩ | ⟨e2, hdg⟩
            · -- static
              subst e0
              have hlk2 : (Cond.methodLink (xcn mi.2.2.1) idx nm).before args s = true := by
                rcases hlink' with z | ⟨z, -⟩
                · exact z
                · cases z
              refine z_back hE hL hP hD hS hn' hq1 hq2 (va_runS (Ts := wsL_law) (As := as.map (xv ad ρ fm)) (rest := r.map (xv ad ρ fm)) (n := na) ⟨hx, hb, hml, hown, hts⟩ hM ⟨z_CB hok hts hlk2 hR (by rw [o6]; rfl), hts _ (o8 rfl)⟩ ⟨xPc_blind, hpre⟩ rfl (by rw [List.length_map]; exact hlen) hL.1 hstk (lv_room hsum) hdg ⟨by rw [hrc]; exact hq1, by rw [hrs]; exact hq2⟩) h
            · -- virtual
              subst e1
              have hlk2 : (Cond.methodLink (xcn mi.2.2.1) idx nm).before args s = true := by
                rcases hlink' with z | ⟨z, -⟩
                · exact z
                · cases z
              unfold xrecv at hrecv
              split at hrecv
              · next z => cases z
              · split at hrecv
                · next a as' =>
                  have hrc2 : ∃ cell : Cell, H[ad a]? = some cell ∧ cell.vm.isStatics = false ∧ s.vm.findClass nm.cls = some cell.cls := by
                    split at hrecv
                    · next h10 =>
                      rw [Bool.and_eq_true, decide_eq_true_eq, decide_eq_true_eq] at hrecv
                      obtain ⟨i, hi, rfl⟩ := xstr_ix a hrecv.1 hrecv.2
                      have := vk_recv hX.2.2.1 hi hS
                      rw [o2]
                      simp only [h10]
                      exact this
                    · next h10 =>
                      rw [xnth_eq] at hrecv
                      split at hrecv
                      · next t fs hca =>
                        rw [Bool.and_eq_true, decide_eq_true_eq, decide_eq_true_eq] at hrecv
                        obtain ⟨rfl, ht⟩ := hrecv
                        have he := xenc_get (cA := cA) (V := xv ad ρ fm) (ad := ad) hca
                        rw [xencC_o ht] at he
                        obtain ⟨rr, hrr, -⟩ := hP a _ he
                        have hcn := xcn_vw hrr
                        have := va_recv hK hP hrr he
                        rw [o2]
                        simp only
                        rw [hcn]
                        exact this
                      · cases hrecv
                  have hlen1 : na = as'.length + 1 := by rw [← hlen]; rfl
                  refine z_back hE hL hP hD hS hn' hq1 hq2 (va_runV (Ts := wsL_law) (C := nm.cls) (As := as'.map (xv ad ρ fm)) (rest := r.map (xv ad ρ fm)) (n := na - 1) ⟨hx, hb, hml, hown, hts⟩ hM ⟨z_CB hok hts hlk2 hR (by rw [o6]; rfl), hts _ (o9 Nat.one_ne_zero).1, hts _ (o10 rfl)⟩ ⟨xPc_blind, hrc2, hpre⟩ rfl (by rw [List.length_map]; omega) hL.1 (by rw [hstk, List.map_cons, List.reverse_cons, List.append_assoc]; rfl) (lv_room hsum) hdg ⟨by rw [hrc]; exact hq1, by rw [hrs]; exact hq2⟩) h
                · cases hrecv
            · -- constructors
              subst e2
              unfold xrecv at hrecv
              split at hrecv
              · next z => cases z
              · split at hrecv
                · next a as' =>
                  have hlen1 : na = as'.length + 1 := by rw [← hlen]; rfl
                  obtain ⟨i1, i2⟩ := o11 rfl
                  have hrt : xrt rk = none := by have i3 : rk = 0 := i2; rw [i3]; rfl
                  have hst2 : st.map (xv ad ρ fm) = (as'.map (xv ad ρ fm)).reverse ++ .ref (ad a) :: r.map (xv ad ρ fm) := by
                    rw [hstk, List.map_cons, List.reverse_cons, List.append_assoc]; rfl
                  rcases hlink' with hlk2 | ⟨-, hnest⟩
                  · have cb := z_CB (R := R) hok hts hlk2 hR (n := na - 1) (by rw [o6]; rfl)
                    simp only [hrt] at cb
                    refine z_back hE hL hP hD hS hn' hq1 hq2 (va_runI (Ts := wsL_law) (As := as'.map (xv ad ρ fm)) (rest := r.map (xv ad ρ fm)) (n := na - 1) ⟨hx, hb, hml, hown, hts⟩ hM ⟨cb, i1, hts _ (o9 (show (2 : Nat) ≠ 0 by decide)).1⟩ ⟨xPc_blind, hpre⟩ rfl (by rw [List.length_map]; omega) hL.1 hst2 (lv_room hsum) hdg ⟨by rw [hrc]; exact hq1, by rw [hrs]; exact hq2⟩) h
                  · refine z_back hE hL hP hD hS hn' hq1 hq2 (va_runIN (Ts := wsL_law) (host := "StreetTillTen") (bytes := by') (maxL := mx) (As := as'.map (xv ad ρ fm)) (rest := r.map (xv ad ρ fm)) (n := na - 1) ⟨hx, hb, hml, hown, hts⟩ hM ⟨va_cnB (ws' := wsL_law) (na - 1) hts (xgoodIn (xws_in hok)) (by unfold xws; rw [hrt]) rfl rfl hnest (hts _ o4) ⟨o5.1, o5.2, by rw [o6]; rfl⟩ ⟨by rw [hR.1]; exact Nat.le_refl _, by rw [hR.2]; show 8 + (_ + 11) + 40 * d ≤ _; simp only at o7; omega⟩, i1, hts _ (o9 (show (2 : Nat) ≠ 0 by decide)).1⟩ ⟨xPc_blind, hpre⟩ rfl (by rw [List.length_map]; omega) hL.1 hst2 (lv_room hsum) hdg ⟨by rw [hrc]; exact hq1, by rw [hrs]; exact hq2⟩) h
                · cases hrecv
        · exact absurd h id
      · exact absurd h id
    · exact absurd h id
  · exact absurd h id
end XCALL
