/-! the law's own frame: calls on the two objects -/
def xscV (n : Nat) : Value → Bool
  | .ref r => decide (r < n)
  | .retAddr _ => false
  | .float _ => false
  | _ => true
/-- cells that name no cell but themselves, and no number that isn't known -/
def xscoped (C : List xCel) : Bool := C.all fun q => q.2.all fun v => xscV C.length v
theorem xscV_ok {ad ad' : Nat → Nat} {ρ ρ' : Nat → Int32} {fm fm' : Value} {n : Nat} (h : ∀ k, k < n → ad k = ad' k) {v : Value} (hv : xscV n v = true) : xv ad ρ fm v = xv ad' ρ' fm' v := by
  cases v with
  | ref r =>
    have hr : r < n := of_decide_eq_true hv
    show Value.ref (ad r) = .ref (ad' r)
    rw [h r hr]
  | retAddr j => cases hv
  | float j => cases hv
  | _ => rfl
theorem xenc_congr {cA : Nat → ClassId} {ad ad' : Nat → Nat} {ρ ρ' : Nat → Int32} {fm fm' : Value} {C : List xCel} (hs : xscoped C = true) (h : ∀ k, k < C.length → ad k = ad' k) : xenc cA (xv ad ρ fm) ad C = xenc cA (xv ad' ρ' fm') ad' C := by
  apply List.ext_getElem?
  intro k
  unfold xenc
  rw [List.getElem?_mapIdx, List.getElem?_mapIdx]
  cases hk : C[k]? with
  | none => rfl
  | some q =>
    have hlt := (List.getElem?_eq_some_iff.mp hk).1
    have hq := List.all_eq_true.mp hs q (List.mem_of_getElem? hk)
    have hv : ∀ v ∈ q.2, xv ad ρ fm v = xv ad' ρ' fm' v := fun v hv => xscV_ok h (List.all_eq_true.mp hq v hv)
    have hg : ∀ j, xv ad ρ fm (q.2.getD j .null) = xv ad' ρ' fm' (q.2.getD j .null) := by
      intro j
      rw [List.getD_eq_getElem?_getD]
      cases hj : q.2[j]? with
      | none => rfl
      | some v => exact hv v (List.mem_of_getElem? hj)
    show some (ad k, _) = some (ad' k, _)
    rw [h k hlt]
    congr 2
    unfold xencC
    split
    · congr 2
      exact List.map_congr_left hv
    · split
      · congr 4
        funext j
        rw [hg j]
      · congr 7
        funext j
        rw [hg j]
theorem xExt_congr {ad ad' : Nat → Nat} {fm : Value} {A : Nat → Prop} {U : State} {H : Heap} (h : ∀ k, xB ≤ k → ad k = ad' k) (hX : xExt ad fm A U H) : xExt ad' fm A U H := by
  have hfn : ∀ n : Nat, ad (xB + n) = ad' (xB + n) := fun n => h _ (Nat.le_add_right _ _)
  obtain ⟨h1, h2, h3, h4, h5, h6⟩ := hX
  refine ⟨fun q hq => ?_, fun j l hl => ?_, ?_, fun i q hq => ?_, h5, h6⟩
  · have := h1 q hq
    simp only [xStat, List.mem_cons, List.not_mem_nil, or_false] at hq
    rcases hq with rfl | rfl | rfl | rfl | rfl
    · have e : xv ad' (fun _ => 0) fm (.ref xB) = xv ad (fun _ => 0) fm (.ref xB) := by
        show Value.ref (ad' xB) = .ref (ad xB); rw [h xB (Nat.le_refl _)]
      simp only [e]; exact this
    · have e : xv ad' (fun _ => 0) fm (.ref (xB + 1)) = xv ad (fun _ => 0) fm (.ref (xB + 1)) := by
        show Value.ref (ad' (xB + 1)) = .ref (ad (xB + 1)); rw [hfn 1]
      simp only [e]; exact this
    · have e : xv ad' (fun _ => 0) fm (.ref (xB + 2)) = xv ad (fun _ => 0) fm (.ref (xB + 2)) := by
        show Value.ref (ad' (xB + 2)) = .ref (ad (xB + 2)); rw [hfn 2]
      simp only [e]; exact this
    · exact this
    · exact this
  · have := h2 j l hl
    rw [hfn j] at this
    exact this
  · have e1 : (fun i => ad' (xB + 10 + i)) = fun i => ad (xB + 10 + i) := by funext i; rw [Nat.add_assoc, hfn]
    have e2 : (fun i => ad' (xB + 30 + i)) = fun i => ad (xB + 30 + i) := by funext i; rw [Nat.add_assoc, hfn]
    rw [e1, e2]
    exact h3
  · have := h4 i q hq
    rw [Nat.add_assoc, hfn] at this
    rw [Nat.add_assoc]
    exact this
/-- the addresses of an object's cells, of what it would make, and of what lies outside -/
def xadr (n sz : Nat) (ad xa : Nat → Nat) : Nat → Nat := fun k => if k < n then ad k else if k < xB then sz + (k - n) else xa k
section XLAW
variable {p : Program} {l : Launch} {e : Env} {s : State} {m : MethodId} {b : Nat} {below : List Frame} {meth : Method} {c : Code} {D : va_G} {cA : Nat → ClassId} {xa : Nat → Nat} {ρ : Nat → Int32} {fm : Value} {Q : State → Prop} {H : Heap} {locs : List Loc} {ls : Array Slot} {pc cells slots : Nat} {rest : List Value}
theorem law_back {mc ms : Nat} {C : List xCel} {LF : List xLf} {AD : Nat → Nat} {n : Nat} {stk : List Value} {aa : Array Value} (hAA : ∀ q, va_A (xenc cA (xv AD ρ fm) AD C) H.size q → xGe s q) (hS : va_S (xGe s) s.heap H locs)
    (hr : va_Run p l e room_1 s m #[Value.ref b] below meth c H locs cells slots mc ms (F0 m pc ls stk) rest (xQc D cA AD ρ fm (va_A (xenc cA (xv AD ρ fm) AD C) H.size) n LF aa) (va_A (xenc cA (xv AD ρ fm) AD C) H.size))
    (kk : ∀ lf ∈ LF, xokR ρ lf.2.2 → ∀ (H1 : Heap) (locs1 : List Loc), H.size ≤ H1.size → (∀ q : Nat, q < H.size → (∀ i, i < C.length → q ≠ AD i) → H1[q]? = H[q]?) → va_S (xGe s) s.heap H1 locs1 → va_P D vwCl (xenc cA (xv AD ρ fm) AD lf.2.1) H1 → va_D (xGe s) (xenc cA (xv AD ρ fm) AD lf.2.1) → W p l e room_1 s m #[Value.ref b] below meth c H1 locs1 (cells + mc) (slots + ms) Q (F0 m (pc + 3) ls ((lf.1.map (xv AD ρ fm)).toList ++ rest))) :
    W p l e room_1 s m #[Value.ref b] below meth c H locs cells slots Q (F0 m pc ls stk) := by
  intro T hT X
  obtain ⟨v, st₀, t, T', Lc, g0, X', hLc, e1, e2, ⟨⟨lf, hlf, k1, k2, k3, k4, k5, k6, k7⟩, hz, hk⟩, stp⟩ := hr T hT X
  rw [g0] at hz hk
  have hv : v = lf.1.map (xv AD ρ fm) := by cases k2; rfl
  have hkeep : ∀ q : Nat, q < H.size → (∀ i, i < C.length → q ≠ AD i) → T'.heap[q]? = H[q]? := by
    intro q hq hn
    rw [e1]
    refine hk q hq (fun z => ?_)
    rcases z with ⟨i, ez, hi⟩ | z
    · obtain ⟨cq, hcq, hez⟩ := xenc_of hi
      have hil := (List.getElem?_eq_some_iff.mp hcq).1
      exact hn i hil (congrArg Prod.fst hez)
    · omega
  have hS' : va_S (xGe s) s.heap T'.heap (locs ++ Lc) := ⟨Nat.le_trans hS.1 (by rw [e1]; exact hz), fun q h1 h2 => by rw [e1, hk q (Nat.lt_of_lt_of_le h1 hS.1) (fun z => h2 (hAA q z))]; exact hS.2.1 q h1 h2, fun q hq => by
    rcases List.mem_append.mp hq with h1 | h1
    · exact hS.2.2 q h1
    · exact hAA _ (hLc q h1)⟩
  obtain ⟨t2, a1, b1⟩ := kk lf hlf k1 T'.heap (locs ++ Lc) (by rw [e1]; exact hz) hkeep hS' (by rw [e1]; exact k3) ⟨k5.1, fun i q hq => hAA _ (k5.2 i q hq)⟩ T' rfl X'
  refine ⟨t2, stp t2 ?_, b1⟩
  rw [hv]
  exact a1
theorem law_AA {C : List xCel} {AD : Nat → Nat} (hD : va_D (xGe s) (xenc cA (xv AD ρ fm) AD C)) (hS : va_S (xGe s) s.heap H locs) : ∀ q, va_A (xenc cA (xv AD ρ fm) AD C) H.size q → xGe s q := by
  intro q hq
  rcases hq with ⟨k, ez, hk⟩ | hq
  · exact hD.2 k _ hk
  · exact Nat.le_trans hS.1 hq
theorem law_ext {n sz : Nat} {ad : Nat → Nat} (hn : n ≤ xB) (hX : xExt xa fm (xGe s) s s.heap) : xExt (xadr n sz ad xa) fm (xGe s) s s.heap := xExt_congr (fun k hk => by unfold xadr; rw [if_neg (by omega), if_neg (by omega)]) hX
theorem law_virt (hE : lEnv p l e s m b c D cA xa fm) {d k j idx : Nat} {mi : xMI} {as' : List Value} {C : List xCel} {rg : xRG} {LF : List xLf} {ad : Nat → Nat} {fs : List Value} (hd : d ≤ 1500) (hj : xmi j = some mi) (hkd : mi.2.2.2.2.2.2.1 = 1) (hmc : mi.2.2.2.2.2.2.2.1 = 0) (hms : mi.2.2.2.2.2.2.2.2.1 = 0) (hex : xexec k d j (.ref 0 :: as') C rg = some LF) (hsc : xscoped C = true) (hB : C.length ≤ xB) (h0 : C[0]? = some (mi.2.2.1, fs)) (hown : mi.2.2.1 < 100) (hna : mi.2.2.2.1 = as'.length + 1) (hR : xokR ρ rg)
    (hP : va_P D vwCl (xenc cA (xv ad (fun _ => 0) fm) ad C) H) (hD : va_D (xGe s) (xenc cA (xv ad (fun _ => 0) fm) ad C)) (hS : va_S (xGe s) s.heap H locs) (hsz : ls.size = 4) (hrest : (rest.map fun v => v.category).sum ≤ 8) (hroom : cells ≤ 600000 ∧ slots ≤ 7302250) (hdg : decode code pc = .ok (.invokevirtual idx, 3)) (hlink : Cond.methodLink RL idx mi.1 ∈ wsL_law)
    {av : List Value} (hav : ∀ ad', as'.map (xv ad' ρ fm) = av)
    (hscL : ∀ lf ∈ LF, xscoped lf.2.1 = true ∧ lf.2.1.length = C.length) (kk : ∀ lf ∈ LF, xokR ρ lf.2.2 → ∀ (ad' : Nat → Nat) (H1 : Heap) (locs1 : List Loc), va_P D vwCl (xenc cA (xv ad (fun _ => 0) fm) ad lf.2.1) H1 → va_D (xGe s) (xenc cA (xv ad (fun _ => 0) fm) ad lf.2.1) → H.size ≤ H1.size → (∀ q : Nat, q < H.size → (∀ i, i < C.length → q ≠ ad i) → H1[q]? = H[q]?) → va_S (xGe s) s.heap H1 locs1 → W p l e room_1 s m #[Value.ref b] below meth c H1 locs1 cells slots Q (F0 m (pc + 3) ls ((lf.1.map (xv ad' ρ fm)).toList ++ rest))) :
    W p l e room_1 s m #[Value.ref b] below meth c H locs cells slots Q (F0 m pc ls (av.reverse ++ .ref (ad 0) :: rest)) := by
  obtain ⟨hx, hb, hml, hown', hts, hK, hX, hF⟩ := hE
  obtain ⟨o1, o2, o3, o4, o5, o6, o7, o8, o9, o10, o11, o12⟩ := id (xmi_ok hj)
  have hlt0 : 0 < C.length := (List.getElem?_eq_some_iff.mp h0).1
  have hin : ∀ k, k < C.length → xadr C.length H.size ad xa k = ad k := fun k hk => by unfold xadr; rw [if_pos hk]
  have hco : xenc cA (xv ad (fun _ => 0) fm) ad C = xenc cA (xv (xadr C.length H.size ad xa) ρ fm) (xadr C.length H.size ad xa) C := xenc_congr hsc (fun k hk => (hin k hk).symm)
  have had0 : xadr C.length H.size ad xa 0 = ad 0 := hin 0 hlt0
  rw [hco] at hP hD
  have hX' : xExt (xadr C.length H.size ad xa) fm (xGe s) s s.heap := law_ext hB hX
  have hCt := xexec_ok k d j mi (.ref 0 :: as') C rg LF hj hex l D cA (xadr C.length H.size ad xa) ρ fm H.size hF hR hB (fun k h1 h2 => by unfold xadr; rw [if_neg (by omega), if_pos h2])
  have hAA := law_AA (H := H) (locs := locs) hD hS
  have hpre : ∀ U : State, U.heap = H → s.WarmedH U.vm → xPc D cA (xadr C.length H.size ad xa) ρ fm C H.size (.ref 0 :: as') (Value.ref (ad 0) :: av).toArray U := fun U hU hW => ⟨by rw [List.map_cons, hav]; show _ = (Value.ref (xadr C.length H.size ad xa 0) :: av).toArray; rw [had0], by rw [hU], by rw [hU]; exact hP, va_K.moved hW.alike hK, ⟨hD.1, fun _ _ _ => trivial⟩, xExt_call hX' hS hAA hW hU⟩
  have he := xenc_get (cA := cA) (V := xv (xadr C.length H.size ad xa) ρ fm) (ad := xadr C.length H.size ad xa) h0
  rw [xencC_o hown] at he
  obtain ⟨rr, hrr, -⟩ := hP 0 _ he
  have hrecv : ∃ cell : Cell, H[ad 0]? = some cell ∧ cell.vm.isStatics = false ∧ s.vm.findClass mi.1.cls = some cell.cls := by
    have h9 := va_recv hK hP hrr he
    rw [o2, xcn_vw hrr]
    rw [had0] at h9
    exact h9
  have hlen : as'.length = av.length := by rw [← hav ad, List.length_map]
  have cb : CallB room_1 s #[Value.ref b] RL idx mi.1 mi.2.1 mi.2.2.2.2.1 (xrt mi.2.2.2.2.2.1) (xws mi) (xrm d mi) mi.2.2.2.2.2.2.2.1 mi.2.2.2.2.2.2.2.2.1 av.length := by
    refine callB_of av.length hts (xgoodIn (xws_in (xmi_ok hj))) rfl rfl rfl (hts _ o4) (hts _ hlink) ⟨o5.1, o5.2, ?_⟩ ⟨?_, ?_⟩
    · rw [o6, hkd, hna, if_neg (by decide), hlen]; rfl
    · show d + 1 ≤ 2048; omega
    · show 8 + (_ + 11) + 40 * d ≤ 84000; omega
  have hr := va_runV (p := p) (l := l) (e := e) (R := room_1) (m := m) (below := below) (meth := meth) (locs := locs) (cells := cells) (slots := slots) (g := F0 m pc ls (av.reverse ++ .ref (ad 0) :: rest)) (Ts := wsL_law) (C := mi.1.cls) (As := av) (rest := rest) (n := av.length) ⟨hx, hb, hml, hown', hts⟩ hCt ⟨cb, hts _ (o9 (by rw [hkd]; decide)).1, hts _ (o10 hkd)⟩ ⟨xPc_blind, hrecv, hpre⟩ rfl rfl hsz rfl (lv_room hrest) hdg ⟨by rw [hmc]; show cells + 0 ≤ 600000; omega, by rw [hms]; show slots + 0 ≤ 7302250; omega⟩
  rw [hmc, hms] at hr
  refine law_back hAA hS hr (fun lf hlf k1 H1 locs1 z1 z2 z3 z4 z5 => ?_)
  have hcb : xenc cA (xv (xadr C.length H.size ad xa) ρ fm) (xadr C.length H.size ad xa) lf.2.1 = xenc cA (xv ad (fun _ => 0) fm) ad lf.2.1 := xenc_congr (hscL lf hlf).1 (fun k hk => hin k (by rw [← (hscL lf hlf).2]; exact hk))
  rw [hcb] at z4 z5
  exact kk lf hlf k1 _ H1 locs1 z4 z5 z1 (fun q hq hn => z2 q hq (fun i hi => by rw [hin i hi]; exact hn i hi)) z3
theorem law_init (hE : lEnv p l e s m b c D cA xa fm) {d k j idx ci q0 : Nat} {mi : xMI} {C0 : List xCel} {fs : List Value} (hd : d ≤ 40) (hj : xmi j = some mi) (hkd : mi.2.2.2.2.2.2.1 = 2) (hex : xexec k d j [.ref 0] [(ci, fs)] [] = some [(none, C0, [])]) (hci : ci < 100) (hna : mi.2.2.2.1 = 1) (hfs : ∀ (V : Value → Value), (∀ x, V (.int x) = .int x) → V .null = .null → (∀ x, V (.long x) = .long x) → fs.map V = fs)
    (hP : va_P D vwCl [(q0, .inr (ci, fs))] H) (hq0 : xGe s q0) (hS : va_S (xGe s) s.heap H locs) (hsz : ls.size = 4) (hrest : (rest.map fun v => v.category).sum ≤ 8) (hroom : cells + mi.2.2.2.2.2.2.2.1 ≤ 600000 ∧ slots + mi.2.2.2.2.2.2.2.2.1 ≤ 7302250) (hdg : decode code pc = .ok (.invokespecial idx, 3)) (hlink : Cond.methodLink RL idx mi.1 ∈ wsL_law)
    (kk : ∀ (H1 : Heap) (locs1 : List Loc), H.size ≤ H1.size → (∀ q : Nat, q < H.size → q ≠ q0 → H1[q]? = H[q]?) → va_S (xGe s) s.heap H1 locs1 → va_P D vwCl (xenc cA (xv (xadr 1 H.size (fun _ => q0) xa) (fun _ => 0) fm) (xadr 1 H.size (fun _ => q0) xa) C0) H1 → va_D (xGe s) (xenc cA (xv (xadr 1 H.size (fun _ => q0) xa) (fun _ => 0) fm) (xadr 1 H.size (fun _ => q0) xa) C0) → W p l e room_1 s m #[Value.ref b] below meth c H1 locs1 (cells + mi.2.2.2.2.2.2.2.1) (slots + mi.2.2.2.2.2.2.2.2.1) Q (F0 m (pc + 3) ls rest)) :
    W p l e room_1 s m #[Value.ref b] below meth c H locs cells slots Q (F0 m pc ls (.ref q0 :: rest)) := by
  obtain ⟨hx, hb, hml, hown', hts, hK, hX, hF⟩ := hE
  obtain ⟨o1, o2, o3, o4, o5, o6, o7, o8, o9, o10, o11, o12⟩ := id (xmi_ok hj)
  have had0 : xadr 1 H.size (fun _ => q0) xa 0 = q0 := rfl
  have hco : [(q0, (.inr (ci, fs) : va_E))] = xenc cA (xv (xadr 1 H.size (fun _ => q0) xa) (fun _ => 0) fm) (xadr 1 H.size (fun _ => q0) xa) [(ci, fs)] := by
    show _ = [(xadr 1 H.size (fun _ => q0) xa 0, xencC cA _ (ci, fs))]
    rw [xencC_o hci, hfs _ (fun _ => rfl) rfl (fun _ => rfl)]
    rfl
  rw [hco] at hP
  have hD : va_D (xGe s) (xenc cA (xv (xadr 1 H.size (fun _ => q0) xa) (fun _ => 0) fm) (xadr 1 H.size (fun _ => q0) xa) [(ci, fs)]) := by
    rw [← hco]
    refine ⟨fun i j p q h1 h2 _ => ?_, fun i q h1 => ?_⟩
    · have a1 := (List.getElem?_eq_some_iff.mp h1).1
      have a2 := (List.getElem?_eq_some_iff.mp h2).1
      simp only [List.length_cons, List.length_nil] at a1 a2
      omega
    · match i, h1 with
      | 0, h1 => cases h1; exact hq0
      | i + 1, h1 => simp at h1
  have hX' : xExt (xadr 1 H.size (fun _ => q0) xa) fm (xGe s) s s.heap := law_ext (show 1 ≤ xB by decide) hX
  have hR : xokR (fun _ => (0 : Int32)) ([] : xRG) := fun k q h => by simp at h
  have hCt := xexec_ok k d j mi [.ref 0] [(ci, fs)] [] [(none, C0, [])] hj hex l D cA (xadr 1 H.size (fun _ => q0) xa) (fun _ => 0) fm H.size hF hR (show 1 ≤ xB by decide) (fun k h1 h2 => by
    have h1' : 1 ≤ k := h1
    show xadr 1 H.size (fun _ => q0) xa k = H.size + (k - 1)
    unfold xadr; rw [if_neg (by omega), if_pos h2])
  have hAA := law_AA (H := H) (locs := locs) hD hS
  have hpre : ∀ U : State, U.heap = H → s.WarmedH U.vm → xPc D cA (xadr 1 H.size (fun _ => q0) xa) (fun _ => 0) fm [(ci, fs)] H.size [.ref 0] (Value.ref q0 :: []).toArray U := fun U hU hW => ⟨rfl, by rw [hU], by rw [hU]; exact hP, va_K.moved hW.alike hK, ⟨hD.1, fun _ _ _ => trivial⟩, xExt_call hX' hS hAA hW hU⟩
  obtain ⟨i1, i2⟩ := o11 hkd
  have hrt : xrt mi.2.2.2.2.2.1 = none := by rw [i2]; rfl
  have cb : CallB room_1 s #[Value.ref b] RL idx mi.1 mi.2.1 mi.2.2.2.2.1 (xrt mi.2.2.2.2.2.1) (xws mi) (xrm d mi) mi.2.2.2.2.2.2.2.1 mi.2.2.2.2.2.2.2.2.1 0 := by
    refine callB_of 0 hts (xgoodIn (xws_in (xmi_ok hj))) rfl rfl rfl (hts _ o4) (hts _ hlink) ⟨o5.1, o5.2, ?_⟩ ⟨?_, ?_⟩
    · rw [o6, hkd, hna, if_neg (by decide)]
    · show d + 1 ≤ 2048; omega
    · show 8 + (_ + 11) + 40 * d ≤ 84000; omega
  rw [hrt] at cb
  have hr := va_runI (p := p) (l := l) (e := e) (R := room_1) (m := m) (below := below) (meth := meth) (locs := locs) (cells := cells) (slots := slots) (g := F0 m pc ls (.ref q0 :: rest)) (Ts := wsL_law) (As := []) (rest := rest) (n := 0) ⟨hx, hb, hml, hown', hts⟩ hCt ⟨cb, i1, hts _ (o9 (by rw [hkd]; decide)).1⟩ ⟨xPc_blind, hpre⟩ rfl rfl hsz rfl (lv_room hrest) hdg hroom
  refine law_back hAA hS hr (fun lf hlf k1 H1 locs1 z1 z2 z3 z4 z5 => ?_)
  rw [List.mem_singleton] at hlf
  subst hlf
  exact kk H1 locs1 z1 (fun q hq hn => z2 q hq (fun i hi => by
    have : i = 0 := by simp only [List.length_cons, List.length_nil] at hi; omega
    rw [this]; exact hn)) z3 z4 z5
/-- an int of the script -/
theorem law_arg (hE : lEnv p l e s m b c D cA xa fm) {L i0 : Nat} {xs : Nat → Int32} (hX : va_X b L xs s s.heap) (hL : L ≤ 3072) (hbl : b < s.heap.size) (hS : va_S (xGe s) s.heap H locs) (h0 : ls[0]? = some (.val (.ref b))) (h3 : ls[3]? = some (.val (.int (Int32.ofNat i0)))) {i : Nat} (hi : i0 + i < L) (hi5 : i ≤ 5) (d1 : decode code pc = .ok (.aload_n 0, 1)) (d2 : decode code (pc + 1) = .ok (.iload_n 3, 1)) (d3 : decode code (pc + 2) = .ok (.iconst (i : Int), 1)) (d4 : decode code (pc + 3) = .ok (.iadd, 1)) (d5 : decode code (pc + 4) = .ok (.iaload, 1))
    (kk : W p l e room_1 s m #[Value.ref b] below meth c H locs cells slots Q (F0 m (pc + 5) ls (.int (xs (i0 + i)) :: rest))) : W p l e room_1 s m #[Value.ref b] below meth c H locs cells slots Q (F0 m pc ls rest) := by
  refine lv_aload_n hE.1 hE.2.1 d1 rfl h0 ?_
  refine lv_iload_n hE.1 hE.2.1 d2 rfl h3 ?_
  refine lv_iconst hE.1 hE.2.1 d3 (v := Int32.ofNat i) (by rfl) ?_
  refine lv_iadd hE.1 hE.2.1 d4 ?_
  have hz : Int32.ofNat i0 + Int32.ofNat i = Int32.ofNat (i0 + i) := (Int32.ofNat_add i0 i).symm
  rw [hz]
  have ht : (Int32.ofNat (i0 + i)).toInt = ((i0 + i : Nat) : Int) := Int32.toInt_ofNat_of_lt (by omega)
  have hin : vp_in (Int32.ofNat (i0 + i)) L ∧ (Int32.ofNat (i0 + i)).toNatClampNeg = i0 + i := by
    refine ⟨vp_in_iff.mpr ⟨by omega, by omega⟩, ?_⟩
    show (Int32.ofNat (i0 + i)).toInt.toNat = i0 + i
    omega
  refine va_sld hE.1 hE.2.1 hX hbl (fun z => Nat.not_le.mpr hbl z) hS hin.1 d5 ?_
  rw [hin.2]
  exact kk
end XLAW
