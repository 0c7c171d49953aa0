/-! a call of the law on one of the two objects -/
/-- both objects are there, in some state that calls can reach; the script is read at i0 -/
def lW (s : State) (b : Nat) (D : va_G) (cA : Nat → ClassId) (fm : Value) (xs : Nat → Int32) (L : Nat) (adx adm : Nat → Nat) (hC hM : dH) (i0 : Nat) (H : Heap) (locs : List Loc) (ls : Array Slot) (cells slots : Nat) : Prop :=
  va_P D vwCl (xenc cA (xv adx (fun _ => 0) fm) adx (dC shC hC)) H ∧ va_D (xGe s) (xenc cA (xv adx (fun _ => 0) fm) adx (dC shC hC)) ∧ va_P D vwCl (xenc cA (xv adm (fun _ => 0) fm) adm (dC shM hM)) H ∧ va_D (xGe s) (xenc cA (xv adm (fun _ => 0) fm) adm (dC shM hM)) ∧ (∀ i, i < shC.length → ∀ k, k < shM.length → adm k ≠ adx i) ∧ va_S (xGe s) s.heap H locs ∧ lv_has ls 4 [(3, .int (Int32.ofNat i0)), (2, .ref (adm 0)), (1, .ref (adx 0)), (0, .ref b)] ∧ va_X b L xs s s.heap ∧ b < s.heap.size ∧ cells ≤ 600000 ∧ slots ≤ 7302250 ∧ InvC hC ∧ InvM hM ∧ L ≤ 3072 ∧ RR hC hM
section XOP
variable {p : Program} {l : Launch} {e : Env} {s : State} {m : MethodId} {b : Nat} {below : List Frame} {meth : Method} {c : Code} {D : va_G} {cA : Nat → ClassId} {xa : Nat → Nat} {fm : Value} {Q : State → Prop} {H : Heap} {locs : List Loc} {ls : Array Slot} {pc cells slots : Nat} {rest : List Value}
theorem law_op (hE : lEnv p l e s m b c D cA xa fm) {sh : dSh} {ks : List Nat} {own j idx : Nat} {mi : xMI} {as' av : List Value} {h : dH} {ad ad2 : Nat → Nat} {C2 : List xCel} {α : Type} {ι : α → Option Value × dH} {t : Option α} {P : α → Prop} (hsc : sh.all (fun q => q.2.all (kdok sh.length)) = true) (hB : sh.length ≤ xB) (h0 : sh[0]? = some (own, ks)) (hj : xmi j = some mi) (hk : mi.2.2.2.2.2.2.1 = 1 ∧ mi.2.2.2.2.2.2.2.1 = 0 ∧ mi.2.2.2.2.2.2.2.2.1 = 0 ∧ mi.2.2.1 = own ∧ own < 100 ∧ mi.2.2.2.1 = as'.length + 1) (hx : dX sh 1100 j (.ref 0 :: as') ι t h) (hs : Sf t P) (hav : ∀ ad', as'.map (xv ad' (fun _ => 0) fm) = av)
    (hP : va_P D vwCl (xenc cA (xv ad (fun _ => 0) fm) ad (dC sh h)) H) (hD : va_D (xGe s) (xenc cA (xv ad (fun _ => 0) fm) ad (dC sh h))) (jP : va_P D vwCl (xenc cA (xv ad2 (fun _ => 0) fm) ad2 C2) H) (hN : ∀ i, i < sh.length → ∀ k, k < C2.length → ad2 k ≠ ad i) (hS : va_S (xGe s) s.heap H locs) (hsz : ls.size = 4) (hrest : (rest.map fun v => v.category).sum ≤ 8) (hroom : cells ≤ 600000 ∧ slots ≤ 7302250) (hdg : decode code pc = .ok (.invokevirtual idx, 3)) (hlink : Cond.methodLink RL idx mi.1 ∈ wsL_law)
    (kk : ∀ (o : α), P o → t = some o → ∀ (ad' : Nat → Nat) (H1 : Heap) (locs1 : List Loc), va_P D vwCl (xenc cA (xv ad (fun _ => 0) fm) ad (dC sh (ι o).2)) H1 → va_D (xGe s) (xenc cA (xv ad (fun _ => 0) fm) ad (dC sh (ι o).2)) → va_P D vwCl (xenc cA (xv ad2 (fun _ => 0) fm) ad2 C2) H1 → va_S (xGe s) s.heap H1 locs1 → W p l e room_1 s m #[Value.ref b] below meth c H1 locs1 cells slots Q (F0 m (pc + 3) ls (((ι o).1.map (xv ad' (fun _ => 0) fm)).toList ++ rest))) :
    W p l e room_1 s m #[Value.ref b] below meth c H locs cells slots Q (F0 m pc ls (av.reverse ++ .ref (ad 0) :: rest)) := by
  obtain ⟨o, ho, hPo⟩ := hs
  obtain ⟨k, hkx⟩ := hx o ho
  obtain ⟨k1, k2, k3, k4, k5, k6⟩ := hk
  have h0' : (dC sh h)[0]? = some (mi.2.2.1, dcell (h 0) ks) := by
    rw [k4]; simp [dC, h0]
  refine law_virt (k := k) (d := 1100) (ρ := fun _ => 0) hE (by omega) hj k1 k2 k3 hkx (dC_sc hsc h) (by rw [dC_len]; exact hB) h0' (by rw [k4]; exact k5) k6 (fun k q h => by simp at h) hP hD hS hsz hrest hroom hdg hlink hav (fun lf hlf => ?_) (fun lf hlf r1 ad' H1 locs1 w1 w2 z1 z2 z3 => ?_)
  · rw [List.mem_singleton] at hlf
    subst hlf
    exact ⟨dC_sc hsc _, by rw [dC_len, dC_len]⟩
  · rw [List.mem_singleton] at hlf
    subst hlf
    refine kk o hPo ho ad' H1 locs1 w1 w2 (jP.kept fun k q hq => ?_) z3
    obtain ⟨cq, hcq, hez⟩ := xenc_of hq
    have hkl := (List.getElem?_eq_some_iff.mp hcq).1
    have hlt := (jP k q hq).lt
    have e1 : q.1 = ad2 k := congrArg Prod.fst hez
    exact z2 q.1 hlt (fun i hi => by rw [e1]; exact hN i (by rw [dC_len] at hi; exact hi) k hkl)
theorem law_end (hr : meth.sig.returnType = ret) (hlk : meth.locks = false) (hE : lEnv p l e s m b c D cA xa fm) (hS : va_S (xGe s) s.heap H locs) (hc : cells ≤ 600000 ∧ slots ≤ 7302250) : W p l e room_1 s m #[Value.ref b] below meth c H locs cells slots (lw_Z below #[Value.ref b] s) (F0 m 1172 ls []) := by
  refine va_forget (fun q hq => hS.2.2 q hq) ?_
  refine W.widen (k := 600000) (n := 7302250) hc.1 hc.2 ?_
  refine lv_iconst hE.1 hE.2.1 dL_law_1172 rfl ?_
  exact lw_ret hE.1 hE.2.1 hr hlk dL_law_1173
end XOP
