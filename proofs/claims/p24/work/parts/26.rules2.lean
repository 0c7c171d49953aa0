/-! the heap, calls, ends -/
noncomputable section
def dtab (p K : Nat) : Int32 := ((xTab[p]?).getD []).getD K 0
theorem d_rep {n : Nat} {X N : Int} (hN : (n : Int) = N) (hX : 0 ≤ X ∧ X < N) : (List.replicate n (0 : Nat))[X.toNat]? = some 0 := by
  rw [List.getElem?_replicate, if_pos (by omega)]
section YY
variable {sh : dSh} {d : Nat} {mi : xMI} {α : Type} {ι : α → Option Value × dH} {t A B : Option α} {pc q q' len : Nat} {lo lo' : List (Option Value)} {st : List Value} {h : dH} {x y z : Int32} {X Y N : Int} {a b : Nat} {u w : Int64} {T : dH → Option α}
/-! fields -/
theorem y_get {idx ci k kd} {ks : List Nat} (hf : dft mi pc = some (.getfield idx, len)) (hx : xfl mi.2.2.1 idx = some (ci, k)) (hc : ¬ ci = 200) (hs : sh[a]? = some (ci, ks)) (hk : ks[k]? = some kd) (hq : pc + 3 = q) {v : Value} (hv : ddec kd (h a k) = v) (hy : dY sh d mi ι t q lo (v :: st) h) : dY sh d mi ι t pc lo (.ref a :: st) h := dY_step (fun call => (dstep hf).trans (by
  subst hq hv; unfold xstepI xget; simp only [hx, if_neg hc, dC_get hs, if_true, dcell_get hk]; rfl)) hy
theorem y_getI {idx ci k} {ks : List Nat} (hf : dft mi pc = some (.getfield idx, len)) (hx : xfl mi.2.2.1 idx = some (ci, k)) (hc : ¬ ci = 200) (hs : sh[a]? = some (ci, ks)) (hk : ks[k]? = some 0) (hq : pc + 3 = q) (hy : dY sh d mi ι t q lo (.int (h a k) :: st) h) : dY sh d mi ι t pc lo (.ref a :: st) h := y_get hf hx hc hs hk hq rfl hy
theorem y_getL {idx ci k} {ks : List Nat} (hf : dft mi pc = some (.getfield idx, len)) (hx : xfl mi.2.2.1 idx = some (ci, k)) (hc : ¬ ci = 200) (hs : sh[a]? = some (ci, ks)) (hk : ks[k]? = some 1) (hq : pc + 3 = q) (hy : dY sh d mi ι t q lo (.long (h a k).toInt64 :: st) h) : dY sh d mi ι t pc lo (.ref a :: st) h := y_get hf hx hc hs hk hq rfl hy
theorem y_getT {idx ci k} {ks : List Nat} (hf : dft mi pc = some (.getfield idx, len)) (hx : xfl mi.2.2.1 idx = some (ci, k)) (hc : ¬ ci = 200) (hs : sh[a]? = some (ci, ks)) (hk : ks[k]? = some 2) (hq : pc + 3 = q) (hy : dY sh d mi ι t q lo (.ref (dtx (h a k)) :: st) h) : dY sh d mi ι t pc lo (.ref a :: st) h := y_get hf hx hc hs hk hq rfl hy
theorem y_getR {idx ci k} {ks : List Nat} (hf : dft mi pc = some (.getfield idx, len)) (hx : xfl mi.2.2.1 idx = some (ci, k)) (hc : ¬ ci = 200) (hs : sh[a]? = some (ci, ks)) (hk : ks[k]? = some (b + 9)) (hq : pc + 3 = q) (hy : dY sh d mi ι t q lo (.ref b :: st) h) : dY sh d mi ι t pc lo (.ref a :: st) h := y_get hf hx hc hs hk hq (ddec_ref b _) hy
theorem y_getK {idx ci k n} {ks : List Nat} (hf : dft mi pc = some (.getfield idx, len)) (hx : xfl mi.2.2.1 idx = some (ci, k)) (hc : ¬ ci = 200) (hs : sh[a]? = some (ci, ks)) (hk : ks[k]? = some (n + 3)) (hn : n < 6) (hz : Int32.ofNat n = x) (hq : pc + 3 = q) (hy : dY sh d mi ι t q lo (.int x :: st) h) : dY sh d mi ι t pc lo (.ref a :: st) h := y_get hf hx hc hs hk hq ((ddec_num hn _).trans (by rw [hz])) hy
theorem y_put {idx ci k kd} {ks : List Nat} {v : Value} {z : Int32} (hf : dft mi pc = some (.putfield idx, len)) (hx : xfl mi.2.2.1 idx = some (ci, k)) (hc : ci < 100) (hs : sh[a]? = some (ci, ks)) (hk : ks[k]? = some kd) (hv : ddec kd z = v) (ht : xfits [] (xty ci k) v = true) (hn : xfin ci k = false) (hq : pc + 3 = q) (hy : ∀ g, dY sh d mi ι (T g) q lo st g) : dY sh d mi ι (oH (dU h a k z) T) pc lo (v :: .ref a :: st) h := dY_step (fun call => (dstep hf).trans (by
  subst hq hv; unfold xstepI xput; simp only [hx]
  have hl : k < (dcell (h a) ks).length := by rw [dcell_len]; exact (List.getElem?_eq_some_iff.mp hk).1
  simp only [dC_get hs]
  rw [if_pos ⟨trivial, hc, hl⟩, if_pos ht, if_pos (Or.inl hn)]
  simp only [xset_eq, dC_set hs hk]; rfl)) (hy (dU h a k z))
theorem y_putI {idx ci k} {ks : List Nat} (hf : dft mi pc = some (.putfield idx, len)) (hx : xfl mi.2.2.1 idx = some (ci, k)) (hc : ci < 100) (hs : sh[a]? = some (ci, ks)) (hk : ks[k]? = some 0) (ht : xfits [] (xty ci k) (.int x) = true) (hn : xfin ci k = false) (hq : pc + 3 = q) (hy : ∀ g, dY sh d mi ι (T g) q lo st g) : dY sh d mi ι (oH (dU h a k x) T) pc lo (.int x :: .ref a :: st) h := y_put hf hx hc hs hk rfl ht hn hq hy
theorem y_putL {idx ci k} {ks : List Nat} (hf : dft mi pc = some (.putfield idx, len)) (hx : xfl mi.2.2.1 idx = some (ci, k)) (hc : ci < 100) (hs : sh[a]? = some (ci, ks)) (hk : ks[k]? = some 1) (he : u.toInt32.toInt64 = u) (ht : xfits [] (xty ci k) (.long u) = true) (hn : xfin ci k = false) (hq : pc + 3 = q) (hy : ∀ g, dY sh d mi ι (T g) q lo st g) : dY sh d mi ι (oH (dU h a k u.toInt32) T) pc lo (.long u :: .ref a :: st) h := y_put hf hx hc hs hk (by show Value.long _ = _; rw [he]) ht hn hq hy
theorem y_putT {idx ci k} {ks : List Nat} (hf : dft mi pc = some (.putfield idx, len)) (hx : xfl mi.2.2.1 idx = some (ci, k)) (hc : ci < 100) (hs : sh[a]? = some (ci, ks)) (hk : ks[k]? = some 2) (he : dtx z = b) (ht : xfits [] (xty ci k) (.ref b) = true) (hn : xfin ci k = false) (hq : pc + 3 = q) (hy : ∀ g, dY sh d mi ι (T g) q lo st g) : dY sh d mi ι (oH (dU h a k z) T) pc lo (.ref b :: .ref a :: st) h := y_put hf hx hc hs hk (by show Value.ref _ = _; rw [he]) ht hn hq hy
theorem y_gets {idx k} {s : String × String × String × Value} (hf : dft mi pc = some (.getstatic idx, len)) (hx : xgs mi.2.2.1 idx = some k) (hs : xnth xStat k = some s) {v : Value} (hv : s.2.2.2 = v) (hq : pc + 3 = q) (hy : dY sh d mi ι t q lo (v :: st) h) : dY sh d mi ι t pc lo st h := dY_step (fun call => (dstep hf).trans (by
  subst hq hv; unfold xstepI xgets; simp only [hx, hs]; rfl)) hy
/-! rows -/
theorem y_ald {tg K} {ks : List Nat} {kd} {ok} (hb : sh.length ≤ xB) (hs : sh[a]? = some (tg, ks)) (h0 : ¬ x.toInt < 0) (hK : x.toInt.toNat = K) (hk : ks[K]? = some kd) (hok : ok (ddec kd (h a K)) = true) : xald pc lo (.int x :: .ref a :: st) (dC sh h) [] 0 0 tg ok = some (.inl (pc + 1, lo, ddec kd (h a K) :: st, dC sh h, [], 0, 0)) := by
  unfold xald
  have ha : a < xB := Nat.lt_of_lt_of_le (List.getElem?_eq_some_iff.mp hs).1 hb
  simp only [xci, if_neg h0, xrow, if_pos ha, dC_get hs, if_true, hK, dcell_get hk, hok]; rfl
theorem y_iald {n K : Nat} (hb : sh.length ≤ xB) (hf : dft mi pc = some (.iaload, len)) (hs : sh[a]? = some (100, List.replicate n 0)) (hN : (n : Int) = N) (hi : x.toInt = X) (hX : 0 ≤ X ∧ X < N) (hK : X.toNat = K) (hq : pc + 1 = q) (hy : dY sh d mi ι t q lo (.int (h a K) :: st) h) : dY sh d mi ι t pc lo (.int x :: .ref a :: st) h := dY_step (fun call => (dstep hf).trans (by
  subst hq hK hi; exact y_ald hb hs (by omega) rfl (d_rep hN hX) rfl)) hy
theorem y_bald {n K : Nat} (hb : sh.length ≤ xB) (hf : dft mi pc = some (.baload, len)) (hs : sh[a]? = some (101, List.replicate n 0)) (hN : (n : Int) = N) (hi : x.toInt = X) (hX : 0 ≤ X ∧ X < N) (hK : X.toNat = K) (hq : pc + 1 = q) (hy : dY sh d mi ι t q lo (.int (h a K) :: st) h) : dY sh d mi ι t pc lo (.int x :: .ref a :: st) h := dY_step (fun call => (dstep hf).trans (by
  subst hq hK hi
  have ha : a < xB := Nat.lt_of_lt_of_le (List.getElem?_eq_some_iff.mp hs).1 hb
  unfold xstepI xbald; simp only [if_pos ha]
  exact y_ald hb hs (by omega) rfl (d_rep hN hX) rfl)) hy
theorem y_aald {tg K : Nat} {ks : List Nat} (hb : sh.length ≤ xB) (hf : dft mi pc = some (.aaload, len)) (hs : sh[a]? = some (tg, ks)) (ht : 102 ≤ tg ∧ tg < 105) (hi : x.toInt = X) (h0 : 0 ≤ X) (hK : X.toNat = K) (hk : ks[K]? = some (b + 9)) (hq : pc + 1 = q) (hy : dY sh d mi ι t q lo (.ref b :: st) h) : dY sh d mi ι t pc lo (.int x :: .ref a :: st) h := dY_step (fun call => (dstep hf).trans (by
  subst hq hK hi
  have hv : ddec (b + 9) (h a x.toInt.toNat) = .ref b := ddec_ref b _
  unfold xstepI xaldq; simp only [dC_get hs, if_pos ht]
  rw [y_ald hb hs (by omega) rfl hk (by rw [hv]; rfl), hv])) hy
theorem y_iald0 {p K : Nat} {l : List Int32} (hf : dft mi pc = some (.iaload, len)) (hl : xnth xTab p = some l) (hp : p < 3) (hN : (l.length : Int) = N) (hi : x.toInt = X) (hX : 0 ≤ X ∧ X < N) (hK : X.toNat = K) (hq : pc + 1 = q) (hy : dY sh d mi ι t q lo (.int (dtab p K) :: st) h) : dY sh d mi ι t pc lo (.int x :: .ref (xB + p) :: st) h := dY_step (fun call => (dstep hf).trans (by
  subst hq hK hi
  have hKl : x.toInt.toNat < l.length := by omega
  unfold xstepI xald
  have e1 : xnth xTab (xB + p - xB) = some l := by rw [Nat.add_sub_cancel_left, hl]
  have e2 : xnth (l.map Value.int) x.toInt.toNat = some (.int (dtab p x.toInt.toNat)) := by
    rw [xnth_eq] at hl ⊢
    generalize x.toInt.toNat = K at hKl
    simp [dtab, hl, hKl]
  simp only [xci, if_neg (show ¬ x.toInt < 0 by omega), xrow, if_neg (show ¬ xB + p < xB by omega), if_true, e1, if_pos (show xB + p < xB + 3 by omega), e2, xisI]; rfl)) hy
theorem y_ast {tg K} {ks : List Nat} {v w : Value} {z : Int32} {kd} (hs : sh[a]? = some (tg, ks)) (h0 : ¬ x.toInt < 0) (hK : x.toInt.toNat = K) (hk : ks[K]? = some kd) (hw : xtak (dC sh h) [] tg v = some w) (hv : ddec kd z = w) : xast pc lo (v :: .int x :: .ref a :: st) (dC sh h) [] 0 0 tg = some (.inl (pc + 1, lo, st, dC sh (dU h a K z), [], 0, 0)) := by
  unfold xast
  have hl : K < (dcell (h a) ks).length := by rw [dcell_len]; exact (List.getElem?_eq_some_iff.mp hk).1
  subst hv
  simp only [xci, if_neg h0, dC_get hs, hK, true_and, if_pos hl, hw, xset_eq, dC_set hs hk]; rfl
theorem y_iast {n K : Nat} (hf : dft mi pc = some (.iastore, len)) (hs : sh[a]? = some (100, List.replicate n 0)) (hN : (n : Int) = N) (hi : x.toInt = X) (hX : 0 ≤ X ∧ X < N) (hK : X.toNat = K) (hq : pc + 1 = q) (hy : ∀ g, dY sh d mi ι (T g) q lo st g) : dY sh d mi ι (oH (dU h a K z) T) pc lo (.int z :: .int x :: .ref a :: st) h := dY_step (fun call => (dstep hf).trans (by
  subst hq hK hi; exact y_ast (v := .int z) (w := .int z) hs (by omega) rfl (d_rep hN hX) rfl rfl)) (hy _)
theorem y_bast {n K : Nat} (hf : dft mi pc = some (.bastore, len)) (hs : sh[a]? = some (101, List.replicate n 0)) (hN : (n : Int) = N) (hi : x.toInt = X) (hX : 0 ≤ X ∧ X < N) (hK : X.toNat = K) (hq : pc + 1 = q) (hy : ∀ g, dY sh d mi ι (T g) q lo st g) : dY sh d mi ι (oH (dU h a K (vp_nar .boolean z)) T) pc lo (.int z :: .int x :: .ref a :: st) h := dY_step (fun call => (dstep hf).trans (by
  subst hq hK hi; exact y_ast (v := .int z) (w := .int (vp_nar .boolean z)) hs (by omega) rfl (d_rep hN hX) rfl rfl)) (hy _)
theorem y_alen {tg} {ks : List Nat} (hb : sh.length ≤ xB) (hf : dft mi pc = some (.arraylength, len)) (hs : sh[a]? = some (tg, ks)) (ht : 100 ≤ tg ∧ tg < 105) (hx : Int32.ofNat ks.length = x) (hq : pc + 1 = q) (hy : dY sh d mi ι t q lo (.int x :: st) h) : dY sh d mi ι t pc lo (.ref a :: st) h := dY_step (fun call => (dstep hf).trans (by
  subst hq hx
  have ha : a < xB := Nat.lt_of_lt_of_le (List.getElem?_eq_some_iff.mp hs).1 hb
  unfold xstepI xalen; simp only [if_pos ha, dC_get hs, if_pos ht, xfI_eq, dcell_len]; rfl)) hy
/-! switches -/
theorem y_tabI {dd low hi offs off} (c : Int) (hf : dft mi pc = some (.tableswitch dd low hi offs, len)) (hx : x.toInt = c) (h1 : low ≤ c) (h2 : c ≤ hi) (ho : xnth offs.toList (c - low).toNat = some off) (ht : xtg pc off = some q) (hy : dY sh d mi ι t q lo st h) : dY sh d mi ι t pc lo (.int x :: st) h := dY_step (fun call => (dstep hf).trans (by
  subst hx
  unfold xstepI xtable xjump
  simp only [xiv, if_neg (show ¬ x.toInt < low by omega), if_neg (show ¬ hi < x.toInt by omega), if_true, ho, ht]; rfl)) hy
theorem y_tabD {dd low hi offs} (hf : dft mi pc = some (.tableswitch dd low hi offs, len)) (hx : x.toInt < low ∨ hi < x.toInt) (ht : xtg pc dd = some q) (hy : dY sh d mi ι t q lo st h) : dY sh d mi ι t pc lo (.int x :: st) h := dY_step (fun call => (dstep hf).trans (by
  unfold xstepI xtable xjump
  by_cases h1 : x.toInt < low
  · simp only [xiv, if_pos h1, ht]; rfl
  · simp only [xiv, if_neg h1, if_pos (show hi < x.toInt by omega), ht]; rfl)) hy
theorem y_look {dd ps} {off : Int} (hf : dft mi pc = some (.lookupswitch dd ps, len)) (hs : (ps.toList.zip (ps.toList.drop 1)).all (fun (a, next) => a.1 < next.1) = true) (ho : Op.lookupswitch.offset ps.toList dd x.toInt = off) (ht : xtg pc off = some q) (hy : dY sh d mi ι t q lo st h) : dY sh d mi ι t pc lo (.int x :: st) h := dY_step (fun call => (dstep hf).trans (by
  unfold xstepI xlook xjump
  simp only [xci]
  rw [if_pos hs, ho]; simp only [ht]; rfl)) hy
/-! calls -/
theorem d_recv {own : Nat} {ks : List Nat} {as : List Value} (hs : sh[a]? = some (own, ks)) (h1 : own < 100) (h2 : ¬ own = 10) : xrecv (dC sh h) 1 own (.ref a :: as) = true := by
  unfold xrecv
  simp only [if_neg h2, dC_get hs]
  simp [h1]
theorem xspec_call {own idx kd J : Nat} {C rg uc us} {call : Nat → xRes} (hm : xml own idx = some J) (hJ : 10 ≤ J) : xspec pc lo st C rg uc us kd own idx call = call (J - 10) := by
  unfold xspec
  rw [hm]
  rcases J with _ | _ | _ | _ | _ | J
  · omega
  · omega
  · omega
  · omega
  · omega
  · rfl
theorem dY_call {β : Type} {ιc : β → Option Value × dH} {tc : Option β} {f : β → Option α} {j as r} (hx : dX sh d j as ιc tc h) (hs : ∀ (call : xCall) (lf : xLf), call j as (dC sh h) [] = some [lf] → xstep call mi (pc, lo, st, dC sh h, [], 0, 0) = some (.inl (q, lo, lf.1.toList ++ r, lf.2.1, lf.2.2, 0, 0))) (hy : ∀ o, dY sh d mi ι (f o) q lo ((ιc o).1.toList ++ r) (ιc o).2) (ht : t = tc.bind f) : dY sh d mi ι t pc lo st h := by
  subst ht
  intro o ho
  cases tc with
  | none => cases ho
  | some c =>
    obtain ⟨k1, hk1⟩ := hx c rfl
    obtain ⟨k2, hk2⟩ := hy c o ho
    refine ⟨k1 + k2 + 1, ?_⟩
    rw [xrun_succ, hs _ _ (by
      have := xexec_mono k1 (k2 + 1) d _ _ _ _ _ hk1
      exact this)]
    have := xrun_mono (b := xexec (k1 + k2 + 1) d) (by
      have := xexec_mono k2 (k1 + 1) d
      rw [show k2 + (k1 + 1) = k1 + k2 + 1 by omega] at this
      exact this) k2 k1 _ _ hk2
    rw [Nat.add_comm k1 k2]
    rw [Nat.add_comm k1 k2] at this
    exact this
theorem dcallstep {KD idx J I as r} {mj : xMI} (hf : dft mi pc = some (I, len)) (hI : ∀ call st C rg uc us, xstepI call mi.2.2.1 mi.2.2.2.2.1 mi.2.2.2.2.2.1 mi.2.2.2.2.2.2.1 mi.2.2.2.2.2.2.2.1 mi.2.2.2.2.2.2.2.2.1 I len pc lo st C rg uc us = xspec pc lo st C rg uc us KD mi.2.2.1 idx (xcall pc lo st C rg uc us call mi.2.2.2.2.2.2.2.1 mi.2.2.2.2.2.2.2.2.1 KD)) (hm : xml mi.2.2.1 idx = some J) (hJ : 10 ≤ J) (hj : xmi (J - 10) = some mj) (hk : mj.2.2.2.2.2.2.1 = KD) (hc : mj.2.2.2.2.2.2.2.1 = 0) (hms : mj.2.2.2.2.2.2.2.2.1 = 0) (hp : xpop mj.2.2.2.1 [] st = some (as, r)) (hr : r.length ≤ 4) (hv : xrecv (dC sh h) KD mj.2.2.1 as = true) (hq : pc + 3 = q) (call : xCall) (lf : xLf) (hl : call (J - 10) as (dC sh h) [] = some [lf]) : xstep call mi (pc, lo, st, dC sh h, [], 0, 0) = some (.inl (q, lo, lf.1.toList ++ r, lf.2.1, lf.2.2, 0, 0)) := by
  rw [dstep hf, hI, xspec_call hm hJ]
  unfold xcall
  rw [hj]
  obtain ⟨y, cl, own, na, mx, rk, kd, mc, ms, tb⟩ := mj
  simp only at hk hc hms hp hv
  subst hk hc hms hq
  simp only [if_true, hp, xfN_eq, Nat.add_zero]
  rw [if_pos ⟨hr, Nat.zero_le _, Nat.zero_le _, hv⟩, hl]
  rfl
theorem y_callP {KD idx J I as r} {mj : xMI} {tc : Option Int32} {f : Int32 → Option α} (hf : dft mi pc = some (I, len)) (hI : ∀ call st C rg uc us, xstepI call mi.2.2.1 mi.2.2.2.2.1 mi.2.2.2.2.2.1 mi.2.2.2.2.2.2.1 mi.2.2.2.2.2.2.2.1 mi.2.2.2.2.2.2.2.2.1 I len pc lo st C rg uc us = xspec pc lo st C rg uc us KD mi.2.2.1 idx (xcall pc lo st C rg uc us call mi.2.2.2.2.2.2.2.1 mi.2.2.2.2.2.2.2.2.1 KD)) (hm : xml mi.2.2.1 idx = some J) (hJ : 10 ≤ J) (hj : xmi (J - 10) = some mj) (hk : mj.2.2.2.2.2.2.1 = KD) (hc : mj.2.2.2.2.2.2.2.1 = 0) (hms : mj.2.2.2.2.2.2.2.2.1 = 0) (hp : xpop mj.2.2.2.1 [] st = some (as, r)) (hr : r.length ≤ 4) (hv : xrecv (dC sh h) KD mj.2.2.1 as = true) (hq : pc + 3 = q) (hx : dX sh d (J - 10) as (dP h) tc h) (hy : ∀ o, dY sh d mi ι (f o) q lo (.int o :: r) h) : dY sh d mi ι (oP tc f) pc lo st h := dY_call hx (dcallstep hf hI hm hJ hj hk hc hms hp hr hv hq) (f := f) hy (by cases tc <;> rfl)
theorem y_callI {KD idx J I as r} {mj : xMI} {tc : Option (Int32 × dH)} {f : Int32 → dH → Option α} (hf : dft mi pc = some (I, len)) (hI : ∀ call st C rg uc us, xstepI call mi.2.2.1 mi.2.2.2.2.1 mi.2.2.2.2.2.1 mi.2.2.2.2.2.2.1 mi.2.2.2.2.2.2.2.1 mi.2.2.2.2.2.2.2.2.1 I len pc lo st C rg uc us = xspec pc lo st C rg uc us KD mi.2.2.1 idx (xcall pc lo st C rg uc us call mi.2.2.2.2.2.2.2.1 mi.2.2.2.2.2.2.2.2.1 KD)) (hm : xml mi.2.2.1 idx = some J) (hJ : 10 ≤ J) (hj : xmi (J - 10) = some mj) (hk : mj.2.2.2.2.2.2.1 = KD) (hc : mj.2.2.2.2.2.2.2.1 = 0) (hms : mj.2.2.2.2.2.2.2.2.1 = 0) (hp : xpop mj.2.2.2.1 [] st = some (as, r)) (hr : r.length ≤ 4) (hv : xrecv (dC sh h) KD mj.2.2.1 as = true) (hq : pc + 3 = q) (hx : dX sh d (J - 10) as dI tc h) (hy : ∀ o g, dY sh d mi ι (f o g) q lo (.int o :: r) g) : dY sh d mi ι (oI tc f) pc lo st h := dY_call hx (dcallstep hf hI hm hJ hj hk hc hms hp hr hv hq) (f := fun o => f o.1 o.2) (fun o => hy o.1 o.2) (by cases tc <;> rfl)
theorem y_callV {KD idx J I as r} {mj : xMI} {tc : Option dH} {f : dH → Option α} (hf : dft mi pc = some (I, len)) (hI : ∀ call st C rg uc us, xstepI call mi.2.2.1 mi.2.2.2.2.1 mi.2.2.2.2.2.1 mi.2.2.2.2.2.2.1 mi.2.2.2.2.2.2.2.1 mi.2.2.2.2.2.2.2.2.1 I len pc lo st C rg uc us = xspec pc lo st C rg uc us KD mi.2.2.1 idx (xcall pc lo st C rg uc us call mi.2.2.2.2.2.2.2.1 mi.2.2.2.2.2.2.2.2.1 KD)) (hm : xml mi.2.2.1 idx = some J) (hJ : 10 ≤ J) (hj : xmi (J - 10) = some mj) (hk : mj.2.2.2.2.2.2.1 = KD) (hc : mj.2.2.2.2.2.2.2.1 = 0) (hms : mj.2.2.2.2.2.2.2.2.1 = 0) (hp : xpop mj.2.2.2.1 [] st = some (as, r)) (hr : r.length ≤ 4) (hv : xrecv (dC sh h) KD mj.2.2.1 as = true) (hq : pc + 3 = q) (hx : dX sh d (J - 10) as dV tc h) (hy : ∀ g, dY sh d mi ι (f g) q lo r g) : dY sh d mi ι (oV tc f) pc lo st h := dY_call hx (dcallstep hf hI hm hJ hj hk hc hms hp hr hv hq) (f := f) hy (by cases tc <;> rfl)
theorem y_max {idx} (hf : dft mi pc = some (.invokestatic idx, len)) (hm : xml mi.2.2.1 idx = some 2) (hr : st.length ≤ 4) (hq : pc + 3 = q) (hy : dY sh d mi ι t q lo (.int (dmax x y) :: st) h) : dY sh d mi ι t pc lo (.int y :: .int x :: st) h := dY_step (fun call => (dstep hf).trans (by
  subst hq; unfold xstepI xspec; simp only [hm]; simp only [if_true, xmath2, xci, if_pos hr, xfI_eq]; rfl)) hy
theorem y_min {idx} (hf : dft mi pc = some (.invokestatic idx, len)) (hm : xml mi.2.2.1 idx = some 3) (hr : st.length ≤ 4) (hq : pc + 3 = q) (hy : dY sh d mi ι t q lo (.int (dmin x y) :: st) h) : dY sh d mi ι t pc lo (.int y :: .int x :: st) h := dY_step (fun call => (dstep hf).trans (by
  subst hq; unfold xstepI xspec; simp only [hm]; simp only [if_true, xmath2, xci, if_pos hr, xfI_eq]; rfl)) hy
theorem y_abs {idx} (hf : dft mi pc = some (.invokestatic idx, len)) (hm : xml mi.2.2.1 idx = some 4) (hr : st.length ≤ 4) (hq : pc + 3 = q) (hy : dY sh d mi ι t q lo (.int (dabs x) :: st) h) : dY sh d mi ι t pc lo (.int x :: st) h := dY_step (fun call => (dstep hf).trans (by
  subst hq; unfold xstepI xspec; simp only [hm]; simp only [if_true, xmath1, xci, if_pos hr, xfI_eq]; rfl)) hy
theorem d_cpy {f g : Nat → Int32} {m n sp dp N : Nat} (h1 : sp + N ≤ m) (h2 : dp + N ≤ n) : (dcell g (List.replicate n 0)).take dp ++ (((dcell f (List.replicate m 0)).drop sp).take N ++ (dcell g (List.replicate n 0)).drop (dp + N)) = dcell (fun k => if dp ≤ k ∧ k < dp + N then f (sp + (k - dp)) else g k) (List.replicate n 0) := by
  have e : ∀ (f : Nat → Int32) (n i : Nat), (dcell f (List.replicate n 0))[i]? = if i < n then some (.int (f i)) else none := by
    intro f n i
    simp only [dcell, List.getElem?_mapIdx, List.getElem?_replicate]
    split <;> rfl
  apply List.ext_getElem?
  intro i
  have l1 : (List.take dp (dcell g (List.replicate n 0))).length = dp := by simp [dcell_len]; omega
  have l2 : (List.take N (List.drop sp (dcell f (List.replicate m 0)))).length = N := by simp [dcell_len]; omega
  rw [e]
  by_cases hi : i < dp
  · rw [List.getElem?_append_left (by omega), List.getElem?_take_of_lt hi, e, if_neg (show ¬ (dp ≤ i ∧ i < dp + N) by omega)]
  · rw [List.getElem?_append_right (by omega), l1]
    by_cases hj : i < dp + N
    · rw [List.getElem?_append_left (by omega), List.getElem?_take_of_lt (by omega), List.getElem?_drop, e, if_pos (by omega), if_pos (by omega), if_pos (show dp ≤ i ∧ i < dp + N by omega)]
    · rw [List.getElem?_append_right (by omega), l2, List.getElem?_drop, show dp + N + (i - dp - N) = i by omega, e, if_neg (show ¬ (dp ≤ i ∧ i < dp + N) by omega)]
theorem y_cpy {idx m n SP DP NN} {sa da : Nat} (hf : dft mi pc = some (.invokestatic idx, len)) (hm : xml mi.2.2.1 idx = some 1) (hr : st.length ≤ 4) (hs : sh[sa]? = some (100, List.replicate m 0)) (hd : sh[da]? = some (100, List.replicate n 0)) (h0 : 0 ≤ z.toInt ∧ 0 ≤ y.toInt ∧ 0 ≤ x.toInt) (eN : z.toInt.toNat = NN) (eD : y.toInt.toNat = DP) (eS : x.toInt.toNat = SP) (h1 : SP + NN ≤ m) (h2 : DP + NN ≤ n) (hq : pc + 3 = q) (hy : ∀ g, dY sh d mi ι (T g) q lo st g) : dY sh d mi ι (oH (dcopy h sa SP da DP NN) T) pc lo (.int z :: .int y :: .ref da :: .int x :: .ref sa :: st) h := dY_step (fun call => (dstep hf).trans (by
  subst hq eN eD eS
  unfold xstepI xspec; simp only [hm]
  simp only [if_true, xcopy]
  rw [if_pos ⟨h0.1, h0.2.1, h0.2.2, hr⟩]
  simp only [dC_get hs, dC_get hd, dcell_len, List.length_replicate]
  rw [if_pos ⟨trivial, trivial, h1, h2⟩, xset_eq, d_cpy h1 h2]
  have : (dC sh h).set da (100, dcell (fun k => if y.toInt.toNat ≤ k ∧ k < y.toInt.toNat + z.toInt.toNat then h sa (x.toInt.toNat + (k - y.toInt.toNat)) else h da k) (List.replicate n 0)) = dC sh (dcopy h sa x.toInt.toNat da y.toInt.toNat z.toInt.toNat) := by
    apply List.ext_getElem?
    intro i
    have hl : da < (dC sh h).length := by
      have := (List.getElem?_eq_some_iff.mp hd).1
      simpa [dC] using this
    by_cases hi : i = da
    · subst hi
      rw [List.getElem?_set_self hl]
      have e : (fun k => if y.toInt.toNat ≤ k ∧ k < y.toInt.toNat + z.toInt.toNat then h sa (x.toInt.toNat + (k - y.toInt.toNat)) else h i k) = dcopy h sa x.toInt.toNat i y.toInt.toNat z.toInt.toNat i := by
        funext k
        simp [dcopy]
      simp only [dC, List.getElem?_mapIdx, hd, Option.map_some, e]
    · rw [List.getElem?_set_ne (Ne.symm hi)]
      simp only [dC, List.getElem?_mapIdx]
      have e : dcopy h sa x.toInt.toNat da y.toInt.toNat z.toInt.toNat i = h i := by
        funext k
        simp [dcopy, hi]
      rw [e]
  rw [this]; rfl)) (hy _)
/-! ends -/
theorem d_end {o} (hs : ∀ call, xstep call mi (pc, lo, st, dC sh h, [], 0, 0) = some (.inr (.inl ((ι o).1, dC sh (ι o).2, [])))) : dY sh d mi ι (some o) pc lo st h := by
  intro p hp
  cases hp
  refine ⟨1, ?_⟩
  rw [xrun_succ, hs]
theorem y_retP (hf : dft mi pc = some (.ireturn, len)) (hk : ¬ mi.2.2.2.2.2.1 = 2) (hc : mi.2.2.2.2.2.2.2.1 = 0) (hr : xrfit mi.2.2.2.2.2.1 (.int x) = true) : dY sh d mi (dP h) (some x) pc lo [.int x] h := d_end fun call => (dstep hf).trans (by
  show (if mi.2.2.2.2.2.1 = 2 then none else xret _ _ _ _ _ _ _ _) = _
  rw [if_neg hk]; unfold xret; simp only; rw [if_pos ⟨hc.symm, Nat.zero_le _, hr⟩]; rfl)
theorem y_retI (hf : dft mi pc = some (.ireturn, len)) (hk : ¬ mi.2.2.2.2.2.1 = 2) (hc : mi.2.2.2.2.2.2.2.1 = 0) (hr : xrfit mi.2.2.2.2.2.1 (.int x) = true) : dY sh d mi dI (some (x, h)) pc lo [.int x] h := d_end fun call => (dstep hf).trans (by
  show (if mi.2.2.2.2.2.1 = 2 then none else xret _ _ _ _ _ _ _ _) = _
  rw [if_neg hk]; unfold xret; simp only; rw [if_pos ⟨hc.symm, Nat.zero_le _, hr⟩]; rfl)
theorem y_retL (hf : dft mi pc = some (.lreturn, len)) (hk : mi.2.2.2.2.2.1 = 2) (hc : mi.2.2.2.2.2.2.2.1 = 0) : dY sh d mi dL (some (u, h)) pc lo [.long u] h := d_end fun call => (dstep hf).trans (by
  show (if mi.2.2.2.2.2.1 = 2 then xret _ _ _ _ _ _ _ _ else none) = _
  rw [if_pos hk]; unfold xret; simp only; rw [if_pos ⟨hc.symm, Nat.zero_le _, by rw [hk]; rfl⟩]; rfl)
theorem y_retV (hf : dft mi pc = some (.return_, len)) (hk : mi.2.2.2.2.2.1 = 0) (hc : mi.2.2.2.2.2.2.2.1 = 0) : dY sh d mi dV (some h) pc lo [] h := d_end fun call => (dstep hf).trans (by
  show (if mi.2.2.2.2.2.1 = 0 ∧ 0 = mi.2.2.2.2.2.2.2.1 ∧ 0 ≤ mi.2.2.2.2.2.2.2.2.1 then _ else none) = _
  rw [if_pos ⟨hk, hc.symm, Nat.zero_le _⟩]; rfl)
theorem dX_of {j as} {mj : xMI} (hj : xmi j = some mj) (hw : xwid as ≤ mj.2.2.2.2.1) (hl : xlocs mj.2.2.2.2.1 as = lo) (hy : dY sh d mj ι t 0 lo [] h) : dX sh (d + 1) j as ι t h := by
  intro o ho
  obtain ⟨k, hk⟩ := hy o ho
  refine ⟨k, ?_⟩
  unfold xexec
  rw [hj]
  simp only
  rw [if_pos hw, hl]
  exact hk
end YY
end
